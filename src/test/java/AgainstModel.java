import java.util.ArrayList;
import java.util.Arrays;
import java.util.List;
import java.util.TreeMap;
import java.util.regex.Matcher;
import java.util.regex.Pattern;

/**
 * Long runs of calls, chosen by a fixed row of numbers, on the class and on a slow model that takes
 * the document's words one by one: parcels of water, all paths listed, owners by sorting, the
 * statute's text by a pattern, turns by listing all rows.
 */
public final class AgainstModel {
    private static final int RUNS = 300;
    private static final int CALLS = 512;
    private static final int MOST_AT_ONCE = 32;
    private static long seed = 20261119L;
    private static int wrong = 0;

    private static int dice(int n) {
        seed = seed * 6364136223846793005L + 1442695040888963407L;
        return (int) ((seed >>> 33) % n);
    }

    private static int from(int low, int high) {
        return low + dice(Math.max(1, high - low + 1));
    }

    // The model

    static final class Parcel {
        int channel, run, when, litres;
    }

    static final class Deed {
        int number, a, b, holder, week, day, voided = -1;
    }

    static final class Model implements Cloneable {
        List<int[]> nodes = new ArrayList<>(); // kind, size, open, least, most
        List<int[]> channels = new ArrayList<>(); // from, to, low, high, travel, breadth, broken
        List<Parcel> parcels = new ArrayList<>();
        long[][] gone = new long[2][3];
        int quarter = 0;
        int[] homes = {-1, -1, -1, -1, -1, -1, -1, -1};
        List<Deed> deeds = new ArrayList<>();
        List<Integer> ran = new ArrayList<>();
        String tape = "";
        List<String> lines = new ArrayList<>();
        int fault = 0, place = -1;
        boolean[] dry = new boolean[100];
        List<int[]> rows = new ArrayList<>();

        Model copy() {
            Model m = new Model();
            for (int[] n : nodes) m.nodes.add(n.clone());
            for (int[] c : channels) m.channels.add(c.clone());
            for (Parcel p : parcels) {
                Parcel q = new Parcel();
                q.channel = p.channel; q.run = p.run; q.when = p.when; q.litres = p.litres;
                m.parcels.add(q);
            }
            m.gone = new long[][] {gone[0].clone(), gone[1].clone()};
            m.quarter = quarter;
            m.homes = homes.clone();
            for (Deed d : deeds) {
                Deed e = new Deed();
                e.number = d.number; e.a = d.a; e.b = d.b; e.holder = d.holder; e.week = d.week; e.day = d.day; e.voided = d.voided;
                m.deeds.add(e);
            }
            m.ran = new ArrayList<>(ran);
            m.tape = tape;
            m.lines = new ArrayList<>(lines);
            m.fault = fault; m.place = place;
            m.dry = dry.clone();
            m.rows = new ArrayList<>(rows);
            return m;
        }

        boolean isNode(int v) { return v >= 0 && v < nodes.size(); }
        boolean isChannel(int c) { return c >= 0 && c < channels.size(); }
        boolean isField(int v) { return isNode(v) && nodes.get(v)[0] == 4; }

        static boolean sizeIs(int kind, int size) {
            if (kind == 0) return size >= 0 && size <= 999;
            if (kind == 1) return size == 0;
            if (kind == 2) return size >= 1 && size <= 99999;
            if (kind == 3) return size >= 1 && size <= 500;
            return kind == 4 && size >= 1 && size <= 99999;
        }

        int node(int kind, int size) {
            if (nodes.size() == 10 || !sizeIs(kind, size)) return -1;
            nodes.add(new int[] {kind, size, -1, 0, 0});
            return nodes.size() - 1;
        }

        int channel(int from, int to, int low, int high, int travel, int breadth) {
            if (channels.size() == 14 || !isNode(from) || !isNode(to) || from >= to || isField(from)) return -1;
            if (low < 0 || high < low || high > 500 || travel < 0 || travel > 8 || breadth < 1 || breadth > 9999) return -1;
            channels.add(new int[] {from, to, low, high, travel, breadth, 0});
            return channels.size() - 1;
        }

        boolean size(int v, int size) {
            if (!isNode(v) || !sizeIs(nodes.get(v)[0], size)) return false;
            if (nodes.get(v)[0] == 2 && size < nodes.get(v)[4]) return false;
            nodes.get(v)[1] = size;
            return true;
        }

        boolean broken(int c, boolean is) {
            if (!isChannel(c) || channels.get(c)[6] == (is ? 1 : 0)) return false;
            channels.get(c)[6] = is ? 1 : 0;
            if (is) {
                for (int i = parcels.size() - 1; i >= 0; i--) {
                    if (parcels.get(i).channel == c) {
                        gone[parcels.get(i).run][2] += parcels.get(i).litres;
                        parcels.remove(i);
                    }
                }
            }
            return true;
        }

        boolean open(int v, int c) {
            if (!isNode(v) || c != -1 && (!isChannel(c) || channels.get(c)[0] != v)) return false;
            nodes.get(v)[2] = c;
            return true;
        }

        int travelOf(List<Integer> way) {
            int sum = 0;
            for (int c : way) sum += channels.get(c)[4];
            return sum;
        }

        boolean isBefore(List<Integer> a, List<Integer> b) {
            if (travelOf(a) != travelOf(b)) return travelOf(a) < travelOf(b);
            if (a.size() != b.size()) return a.size() < b.size();
            for (int i = 0; i < a.size(); i++) {
                if (!a.get(i).equals(b.get(i))) return a.get(i) < b.get(i);
            }
            return false;
        }

        List<Integer> best;

        void listWays(int at, int to, List<Integer> way) {
            if (at == to) {
                if (best == null || isBefore(way, best)) best = new ArrayList<>(way);
                return;
            }
            for (int c = channels.size() - 1; c >= 0; c--) {
                if (channels.get(c)[0] == at && channels.get(c)[6] == 0) {
                    way.add(c);
                    listWays(channels.get(c)[1], to, way);
                    way.remove(way.size() - 1);
                }
            }
        }

        List<Integer> way(int from, int to) {
            best = null;
            if (isNode(from) && isNode(to) && from != to) listWays(from, to, new ArrayList<>());
            return best;
        }

        int path(int from, int to) { return way(from, to) == null ? -1 : travelOf(best); }

        int along(int from, int to, int i) {
            return way(from, to) == null || i < 0 || i >= best.size() ? -1 : best.get(i);
        }

        int go(int n) {
            if (n < 1 || n > 96 || quarter + n > 9599) return -1;
            for (int i = 0; i < n; i++) {
                if (quarter % 4 == 0) {
                    int hour = quarter / 4;
                    int who = owner(hour % 168, hour / 168, quarter / 96);
                    ran.add(who);
                    if (who >= 0 && way(0, homes[who]) != null) {
                        for (int c : best) nodes.get(channels.get(c)[0])[2] = c;
                    }
                }
                for (int run = 0; run < 2; run++) {
                    for (int v = 0; v < nodes.size(); v++) pass(run, v);
                }
                quarter++;
            }
            return quarter;
        }

        void pass(int run, int v) {
            int[] node = nodes.get(v);
            int there = 0;
            for (int i = parcels.size() - 1; i >= 0; i--) {
                Parcel p = parcels.get(i);
                if (p.run == run && p.when == quarter && channels.get(p.channel)[1] == v) {
                    there += p.litres;
                    parcels.remove(i);
                }
            }
            if (node[0] == 0) { there += node[1]; node[3 + run] += node[1]; }
            if (node[0] == 4) { node[3 + run] += there; return; }
            if (node[0] == 2) {
                there += node[3 + run];
                if (there > node[1]) { gone[run][0] += there - node[1]; there = node[1]; }
            }
            int out = 0;
            if (node[2] != -1) out = Math.min(there, channels.get(node[2])[5]);
            if (node[0] == 2) node[3 + run] = there - out; else gone[run][0] += there - out;
            if (node[0] == 3) node[3 + run] += out * node[1] / 100;
            if (node[2] == -1) return;
            int[] c = channels.get(node[2]);
            if (c[6] == 1) { gone[run][2] += out; return; }
            int leak = out * c[run == 0 ? 3 : 2] / 1000;
            gone[run][1] += leak;
            Parcel p = new Parcel();
            p.channel = node[2]; p.run = run; p.when = quarter + c[4]; p.litres = out - leak;
            parcels.add(p);
        }

        int about(int v, int what) { return !isNode(v) || what < 0 || what > 4 ? -2 : nodes.get(v)[what]; }

        int under(int run, int c) {
            int sum = 0;
            for (Parcel p : parcels) if (p.run == run && (c == -1 || p.channel == c)) sum += p.litres;
            return sum;
        }

        int look(int c, int what) {
            if (!isChannel(c) || what < 0 || what > 8) return -2;
            return what < 7 ? channels.get(c)[what] : under(what - 7, c);
        }

        int all(int what, boolean most) {
            int run = most ? 1 : 0;
            if (what < 0 || what > 6) return -1;
            if (what == 3) return under(run, -1);
            if (what > 3) return (int) gone[run][what - 4];
            int kind = what == 0 ? 0 : what == 1 ? 4 : 2;
            int sum = 0;
            for (int[] n : nodes) if (n[0] == kind) sum += n[3 + run];
            return sum;
        }

        boolean field(int holder, int v) {
            if (holder < 0 || holder > 7 || v != -1 && !isField(v)) return false;
            homes[holder] = v;
            return true;
        }

        int deed(int a, int b, int holder, int week) {
            if (deeds.size() == 120 || a < 0 || b < a || b > 167 || holder < 0 || holder > 7 || week < 0 || week > 99) return -1;
            Deed d = new Deed();
            d.number = deeds.size(); d.a = a; d.b = b; d.holder = holder; d.week = week; d.day = quarter / 96;
            deeds.add(d);
            return d.number;
        }

        boolean annul(int d) {
            if (d < 0 || d >= deeds.size() || deeds.get(d).voided != -1) return false;
            deeds.get(d).voided = quarter / 96;
            return true;
        }

        int written(int d, int what) {
            if (d < 0 || d >= deeds.size() || what < 0 || what > 5) return -2;
            Deed x = deeds.get(d);
            return new int[] {x.a, x.b, x.holder, x.week, x.day, x.voided}[what];
        }

        int owner(int hour, int week, int k) {
            if (hour < 0 || hour > 167 || week < 0 || week > 99 || k < 0 || k > quarter / 96) return -2;
            List<Deed> all = new ArrayList<>();
            for (Deed d : deeds) {
                if (d.day <= k && !(d.voided != -1 && d.voided <= k) && d.a <= hour && hour <= d.b && d.week <= week) all.add(d);
            }
            all.sort((x, y) -> x.week != y.week ? y.week - x.week : y.number - x.number);
            return all.isEmpty() ? -1 : all.get(0).holder;
        }

        int ran(int i) { return i < 0 || i >= ran.size() ? -2 : ran.get(i); }

        int owed(int holder) {
            if (holder < 0 || holder > 7) return -100000;
            int sum = 0;
            for (int i = 0; i < ran.size(); i++) {
                boolean own = owner(i % 168, i / 168, quarter / 96) == holder;
                if (own && ran.get(i) != holder) sum++;
                if (!own && ran.get(i) == holder) sum--;
            }
            return sum;
        }

        int feed(int... n) {
            if (tape.length() + 20 > 500) return -1;
            StringBuilder s = new StringBuilder(tape);
            for (int x : n) for (int i = 3; i >= 0; i--) s.append((char) (x >>> 8 * i & 255));
            tape = s.toString();
            return tape.length();
        }

        int end(int n) {
            if (n < 0 || n > tape.length()) return -1;
            tape = tape.substring(0, n);
            return n;
        }

        static final String[] WORDS = {"if", "and", "not", "weight", "cut", "free", "dry", "hours", "night", "far", "holder", "owed"};
        static final String CODES = "iantcfdHHHHH";
        // i if, a and, n not, t weight, c cut, f free, d dry, H another fact, : ; s < > =, N number
        static final Pattern TEXT = Pattern.compile("((i(n?(d|HsN))(an?(d|HsN))*:)?([tc]N|f);)*");
        static final Pattern TOKEN = Pattern.compile("[a-z]+|[0-9]+|[:;<>=]");

        static char code(String token) {
            for (int i = 0; i < WORDS.length; i++) if (token.equals(WORDS[i])) return CODES.charAt(i);
            if (token.matches("[0-9]{1,4}")) return 'N';
            if (token.matches("[<>=]")) return 's';
            return token.equals(":") ? ':' : token.equals(";") ? ';' : '?';
        }

        int statute() {
            String text = tape;
            tape = "";
            List<String> tokens = new ArrayList<>();
            List<Integer> places = new ArrayList<>();
            Matcher m = TOKEN.matcher(text);
            int at = 0;
            while (true) {
                while (at < text.length() && (text.charAt(at) == 10 || text.charAt(at) == 32)) at++;
                if (at == text.length()) break;
                String token = m.find(at) && m.start() == at ? m.group() : text.substring(at, at + 1);
                tokens.add(token);
                places.add(at);
                at += token.length();
            }
            StringBuilder codes = new StringBuilder();
            fault = 0;
            place = -1;
            for (int i = 0; i < tokens.size(); i++) {
                codes.append(code(tokens.get(i)));
                Matcher t = TEXT.matcher(codes);
                if (!t.matches() && !t.hitEnd()) { fault = 1; place = places.get(i); return -1; }
            }
            if (!TEXT.matcher(codes).matches()) { fault = 1; place = text.length(); return -1; }
            return keepLines(tokens, places);
        }

        int keepLines(List<String> tokens, List<Integer> places) {
            List<String> found = new ArrayList<>();
            StringBuilder line = new StringBuilder();
            int tests = 0;
            for (int i = 0; i < tokens.size(); i++) {
                String token = tokens.get(i);
                if (line.length() == 0 && found.size() == 16) { fault = 3; place = places.get(i); return -1; }
                if (i > 0 && (tokens.get(i - 1).equals("and") || tokens.get(i - 1).equals("if")) && ++tests == 5) { fault = 3; place = places.get(i); return -1; }
                if (i > 0 && tokens.get(i - 1).equals("cut") && Integer.parseInt(token) > 100) { fault = 2; place = places.get(i); return -1; }
                if (token.equals(";")) { found.add(line.toString().trim()); line.setLength(0); tests = 0; } else line.append(token).append(' ');
            }
            lines = found;
            return lines.size();
        }

        boolean dry(int week, boolean is) {
            if (week < 0 || week > 99 || dry[week] == is) return false;
            dry[week] = is;
            return true;
        }

        boolean holds(String test, int holder, int week, int[] facts) {
            String t = test.trim();
            if (t.startsWith("not ")) return !holds(t.substring(4), holder, week, facts);
            if (t.equals("dry")) return dry[week];
            String[] p = t.split(" ");
            int value = facts[Arrays.asList("hours", "night", "far", "holder", "owed").indexOf(p[0])];
            int n = Integer.parseInt(p[2]);
            return p[1].equals("<") ? value < n : p[1].equals(">") ? value > n : value == n;
        }

        int holder(int holder, int week, int what) {
            if (holder < 0 || holder > 7 || week < 0 || week > 99 || what < 0 || what > 5) return -1;
            int hours = 0, night = 0;
            for (int h = 0; h < 168; h++) {
                if (owner(h, week, quarter / 96) == holder) {
                    hours++;
                    if (h % 24 < 6 || h % 24 > 17) night++;
                }
            }
            int far = path(0, homes[holder]) == -1 ? 999 : path(0, homes[holder]);
            int[] facts = {hours, night, far, holder, Math.max(0, owed(holder))};
            int weight = 0, cut = 0;
            for (String line : lines) {
                String act = line;
                boolean all = true;
                if (line.startsWith("if ")) {
                    act = line.substring(line.indexOf(':') + 1).trim();
                    for (String t : line.substring(3, line.indexOf(':')).split(" and ")) all &= holds(t, holder, week, facts);
                }
                if (!all) continue;
                if (act.startsWith("weight")) weight += Integer.parseInt(act.substring(7));
                if (act.startsWith("cut")) cut = Integer.parseInt(act.substring(4));
                if (act.equals("free")) { weight = 0; break; }
            }
            return new int[] {hours, night, weight, cut, hours - hours * cut / 100, far}[what];
        }

        int duty(int y, int week, int holder) {
            if (y < 0 || y > 9999 || week < 0 || week > 99 || holder < 0 || holder > 7) return -1;
            long[] w = new long[8];
            long all = 0;
            for (int h = 0; h < 8; h++) { w[h] = holder(h, week, 2); all += w[h]; }
            if (all == 0) return 0;
            final long sum = all;
            long left = y;
            long[] has = new long[8];
            List<Integer> order = new ArrayList<>();
            for (int h = 0; h < 8; h++) { has[h] = y * w[h] / sum; left -= has[h]; order.add(h); }
            order.sort((a, b) -> Long.compare(y * w[b] % sum, y * w[a] % sum));
            for (int i = 0; i < left; i++) has[order.get(i)]++;
            return (int) has[holder];
        }

        int gauge(int c, int q, int in, int out) {
            if (rows.size() == 150 || !isChannel(c) || q < 0 || q > quarter || in < 0 || in > 9999 || out < 0 || out > 9999) return -1;
            rows.add(new int[] {c, q, in, out});
            return rows.size();
        }

        int stolen(int c, int t, int what) {
            if (!isChannel(c) || t < 0 || t > 999 || what < 0 || what > 5) return -1;
            TreeMap<Integer, int[]> latest = new TreeMap<>();
            for (int[] r : rows) if (r[0] == c) latest.put(r[1], r);
            int closes = 0, stolen = 0, litres = 0, run = 0, longest = 0, first = -1, before = -9;
            for (int q : latest.keySet()) {
                int[] r = latest.get(q);
                int least = r[2] - r[2] * channels.get(c)[3] / 1000 - t;
                int most = r[2] - r[2] * channels.get(c)[2] / 1000 + t;
                if (r[3] >= least && r[3] <= most) closes++;
                if (r[3] < least) {
                    stolen++;
                    litres += least - r[3];
                    run = before == q - 1 ? run + 1 : 1;
                    before = q;
                    if (run > longest) { longest = run; first = q - run + 1; }
                }
            }
            return new int[] {latest.size(), closes, stolen, longest, first, litres}[what];
        }

        int count(int what) {
            int broken = 0, dryWeeks = 0;
            for (int[] c : channels) broken += c[6];
            for (boolean d : dry) dryWeeks += d ? 1 : 0;
            int[] all = {nodes.size(), channels.size(), deeds.size(), quarter, quarter / 96, quarter / 672, ran.size(),
                lines.size(), rows.size(), broken, dryWeeks};
            return what < 0 || what >= all.length ? -1 : all[what];
        }
    }

    // Runs of calls

    private static final String[] PARTS = {"if ", "and ", "not ", "weight ", "cut ", "free", "dry", "hours", "night", "far",
        "holder", "owed", ":", ";", "<", ">", "=", "5", "100", "101", "12345", "\n", "?"};

    private static String test() {
        String t = dice(3) == 0 ? "not " : "";
        if (dice(4) == 0) return t + "dry";
        String fact = new String[] {"hours", "night", "far", "holder", "owed"}[dice(5)];
        return t + fact + "<>=".charAt(dice(3)) + from(0, 12);
    }

    private static String line() {
        StringBuilder s = new StringBuilder();
        if (dice(3) > 0) {
            s.append("if ").append(test());
            for (int i = dice(dice(12) == 0 ? 6 : 3); i > 0; i--) s.append(" and ").append(test());
            s.append(':');
        }
        int act = dice(8);
        s.append(act == 0 ? "free" : act < 3 ? "cut " + dice(dice(4) == 0 ? 110 : 101) : "weight " + dice(30));
        return s.append(dice(2) == 0 ? ";" : " ;\n").toString();
    }

    private static String text() {
        StringBuilder s = new StringBuilder();
        if (dice(8) == 0) {
            for (int i = 14 + dice(6); i > 0; i--) s.append(dice(9) == 0 ? line() : "weight " + dice(9) + ";");
        } else {
            for (int i = dice(7); i > 0; i--) s.append(line());
        }
        for (int i = dice(3); i > 0 && dice(3) == 0; i--) {
            int at = dice(s.length() + 1);
            if (dice(2) == 0) s.insert(at, PARTS[dice(PARTS.length)]); else s.delete(at, Math.min(s.length(), at + 1 + dice(3)));
        }
        return s.substring(0, Math.min(500, s.length()));
    }

    private static CliffWater x;
    private static Model m;
    private static Model[] images;
    private static String call;
    private static int made;

    private static boolean same(long got, long want) {
        made++;
        if (got == want) return true;
        wrong++;
        System.out.println(call + " answered " + got + ", the model " + want);
        return false;
    }

    private static boolean same(boolean got, boolean want) { return same(got ? 1 : 0, want ? 1 : 0); }

    private static int near(int low, int high) {
        int d = dice(40);
        return d == 0 ? low - 1 : d == 1 ? high + 1 : d == 2 ? low : d == 3 ? high : from(low, high);
    }

    private static int knownNode() { return near(0, Math.max(0, m.nodes.size() - 1)); }
    private static int knownChannel() { return near(0, Math.max(0, m.channels.size() - 1)); }

    private static boolean net() {
        int a, b, c;
        switch (dice(9)) {
            case 0:
                a = m.nodes.isEmpty() ? 0 : near(0, 4);
                int[] top = {999, 0, 3000, 500, 3000};
                b = a < 0 || a > 4 ? 1 : near(a < 2 ? 0 : 1, top[a]);
                call = "node(" + a + ", " + b + ")";
                return same(x.node(a, b), m.node(a, b));
            case 1: case 2:
                a = knownNode();
                b = dice(10) == 0 ? knownNode() : a + 1 + dice(4);
                int low = near(0, 300), high = near(low, 500), travel = near(0, dice(2) * 8), breadth = near(1, 1500);
                call = "channel";
                return same(x.channel(a, b, low, high, travel, breadth), m.channel(a, b, low, high, travel, breadth));
            case 3:
                a = knownNode();
                b = m.isNode(a) && m.nodes.get(a)[0] != 1 ? from(0, m.nodes.get(a)[0] == 2 ? 4000 : 600) : dice(2);
                call = "size(" + a + ", " + b + ")";
                return same(x.size(a, b), m.size(a, b));
            case 4:
                a = knownChannel();
                boolean is = dice(3) == 0;
                call = "broken(" + a + ", " + is + ")";
                return same(x.broken(a, is), m.broken(a, is));
            case 5: case 6:
                b = knownChannel();
                a = m.isChannel(b) && dice(9) > 0 ? m.channels.get(b)[0] : knownNode();
                call = "open(" + a + ", " + b + ")";
                return same(x.open(a, b), m.open(a, b));
            default:
                a = knownNode();
                b = knownNode();
                c = near(0, 4);
                call = "path(" + a + ", " + b + ")";
                return same(x.path(a, b), m.path(a, b)) && same(x.along(a, b, c), m.along(a, b, c));
        }
    }

    private static boolean looks() {
        int a = knownNode(), c = knownChannel(), what;
        switch (dice(5)) {
            case 0:
                what = near(0, 4);
                call = "about(" + a + ", " + what + ")";
                return same(x.about(a, what), m.about(a, what));
            case 1:
                what = near(0, 8);
                call = "look(" + c + ", " + what + ")";
                return same(x.look(c, what), m.look(c, what));
            case 2: case 3:
                what = near(0, 6);
                boolean most = dice(2) == 0;
                call = "all(" + what + ", " + most + ")";
                return same(x.all(what, most), m.all(what, most));
            default:
                what = near(0, 10);
                call = "count(" + what + ")";
                return same(x.count(what), m.count(what));
        }
    }

    private static boolean rights() {
        int a, b, c, d;
        switch (dice(9)) {
            case 0:
                a = near(0, 7);
                b = dice(6) == 0 ? knownNode() : -1;
                for (int v = 0; v < m.nodes.size(); v++) if (m.isField(v) && dice(2) == 0) b = v;
                call = "field(" + a + ", " + b + ")";
                return same(x.field(a, b), m.field(a, b));
            case 1: case 2:
                a = near(0, 167);
                b = dice(3) == 0 ? near(a, 167) : a + dice(20);
                c = near(0, 7);
                d = dice(3) == 0 ? near(0, 99) : m.quarter / 672 + dice(3) - 1;
                call = "deed(" + a + ", " + b + ", " + c + ", " + d + ")";
                return same(x.deed(a, b, c, d), m.deed(a, b, c, d));
            case 3:
                a = near(0, Math.max(0, m.deeds.size() - 1));
                b = near(0, 5);
                call = "annul(" + a + ")";
                return (dice(2) > 0 || same(x.annul(a), m.annul(a))) && same(x.written(a, b), m.written(a, b));
            case 4: case 5:
                a = near(0, 167);
                b = dice(2) == 0 ? near(0, 99) : m.quarter / 672;
                c = near(0, m.quarter / 96);
                call = "owner(" + a + ", " + b + ", " + c + ")";
                return same(x.owner(a, b, c), m.owner(a, b, c));
            case 6:
                a = near(0, Math.max(0, m.ran.size() - 1));
                call = "ran(" + a + ")";
                return same(x.ran(a), m.ran(a));
            default:
                a = near(0, 7);
                call = "owed(" + a + ")";
                return same(x.owed(a), m.owed(a));
        }
    }

    private static boolean feedText(String text) {
        boolean fine = true;
        for (int i = 0; i < text.length() && fine; i += 20) {
            int[] n = new int[5];
            for (int j = 0; j < 20; j++) n[j / 4] = n[j / 4] << 8 | (i + j < text.length() ? text.charAt(i + j) : dice(256));
            call = "feed";
            fine = same(x.feed(n[0], n[1], n[2], n[3], n[4]), m.feed(n));
        }
        int to = dice(20) == 0 ? near(0, m.tape.length()) : text.length();
        call = "end(" + to + ")";
        return fine && same(x.end(to), m.end(to));
    }

    private static boolean law() {
        int a, b, c;
        switch (dice(6)) {
            case 0:
                String text = text();
                call = "end(0)";
                same(x.end(0), m.end(0));
                if (!feedText(text)) return false;
                if (dice(15) == 0) return true;
                call = "statute() of " + m.tape;
                return same(x.statute(), m.statute()) && same(x.fault(0), m.fault) && same(x.fault(1), m.place);
            case 1:
                a = dice(2) == 0 ? near(0, 99) : m.quarter / 672;
                boolean is = dice(2) == 0;
                call = "dry(" + a + ", " + is + ")";
                return same(x.dry(a, is), m.dry(a, is));
            case 2: case 3: case 4:
                a = near(0, 7);
                b = dice(3) == 0 ? near(0, 99) : m.quarter / 672;
                c = dice(2) == 0 ? 2 : near(0, 5);
                call = "holder(" + a + ", " + b + ", " + c + ")";
                return same(x.holder(a, b, c), m.holder(a, b, c));
            default:
                a = near(0, dice(2) == 0 ? 9999 : 40);
                b = near(0, 20);
                c = near(0, 7);
                call = "duty(" + a + ", " + b + ", " + c + ")";
                return same(x.duty(a, b, c), m.duty(a, b, c));
        }
    }

    private static boolean gauges() {
        int c = dice(3) == 0 ? knownChannel() : 0;
        if (dice(2) == 0) {
            int q = near(0, Math.min(m.quarter, 40)), in = near(0, dice(2) == 0 ? 9999 : 100);
            int out = near(0, in);
            call = "gauge(" + c + ", " + q + ", " + in + ", " + out + ")";
            return same(x.gauge(c, q, in, out), m.gauge(c, q, in, out));
        }
        int t = dice(2) == 0 ? near(0, 999) : dice(40), what = near(0, 5);
        call = "stolen(" + c + ", " + t + ", " + what + ")";
        return same(x.stolen(c, t, what), m.stolen(c, t, what));
    }

    private static boolean imagesAndTime() {
        if (dice(6) == 0) {
            int k = near(0, 2);
            if (dice(2) == 0) {
                call = "image(" + k + ")";
                boolean is = k >= 0 && k <= 2;
                if (is) images[k] = m.copy();
                return same(x.image(k), is);
            }
            call = "again(" + k + ")";
            boolean is = k >= 0 && k <= 2 && images[k] != null;
            if (is) m = images[k].copy();
            return same(x.again(k), is);
        }
        int n = dice(3) == 0 ? near(1, 96) : from(1, 9);
        call = "go(" + n + ")";
        return same(x.go(n), m.go(n));
    }

    private static boolean anyCall(int i) {
        if (i < 20) return net();
        int d = dice(12);
        return d < 2 ? net() : d < 4 ? looks() : d < 6 ? rights() : d < 8 ? law() : d < 9 ? gauges() : imagesAndTime();
    }

    private static void run(int number) {
        x = new CliffWater();
        m = new Model();
        images = new Model[3];
        made = 0;
        boolean fine = true;
        for (int i = 0; made <= CALLS - MOST_AT_ONCE && fine; i++) fine = anyCall(i);
        if (!fine) System.out.println("in run " + number);
    }

    // Laid turns, for all numbers

    private static int changes(int[] row, int n) {
        int sum = 0;
        for (int i = 1; i < n; i++) if (row[i] != row[i - 1]) sum++;
        return sum;
    }

    private static int wheels(int[] row, int n) {
        int sum = 0;
        for (int i = 0; i < n; i++) if (row[i] == 99) sum++;
        return sum;
    }

    /** The greatest gap of all fields, their fewest slots and the spread of their nights. */
    private static int[] figures(int[] row, int n, int[] nodes) {
        int gap = 0, fewest = 9, low = 9, high = 0;
        for (int v : nodes) {
            int since = 0, slots = 0, nights = 0;
            for (int i = 0; i < n; i++) {
                since = row[i] == v ? 0 : since + 1;
                gap = Math.max(gap, since);
                if (row[i] == v) slots++;
                if (row[i] == v && i % 2 == 1) nights++;
            }
            fewest = Math.min(fewest, slots);
            low = Math.min(low, nights);
            high = Math.max(high, nights);
        }
        return new int[] {gap, fewest, high - low};
    }

    private static boolean better(int[] a, int[] b, int n) {
        if (b == null) return true;
        if (changes(a, n) != changes(b, n)) return changes(a, n) < changes(b, n);
        if (wheels(a, n) != wheels(b, n)) return wheels(a, n) > wheels(b, n);
        return Arrays.compare(a, b) < 0;
    }

    private static void turns(int n, int... nodes) {
        int[][][] best = new int[5][8][];
        int all = 1;
        for (int i = 0; i < n; i++) all *= nodes.length + 1;
        for (int code = all - 1; code >= 0; code--) {
            int[] row = new int[n];
            int rest = code;
            for (int i = 0; i < n; i++) {
                int c = rest % (nodes.length + 1);
                row[i] = c == nodes.length ? 99 : nodes[c];
                rest /= nodes.length + 1;
            }
            int[] f = figures(row, n, nodes);
            if (f[2] > 1) continue;
            for (int n0 = 1; n0 <= 4 && n0 <= f[1]; n0++) {
                for (int g = f[0]; g <= 7; g++) if (better(row, best[n0][g], n)) best[n0][g] = row;
            }
        }
        int bits = 0;
        for (int v : nodes) bits |= 1 << v;
        for (int n0 = 1; n0 <= 4; n0++) {
            x = new CliffWater();
            for (int v = 0; v < 10; v++) x.node(v == 1 || v == 5 ? 1 : 4, v == 1 || v == 5 ? 0 : 9);
            for (int g = 0; g <= 7; g++) {
                int[] row = best[n0][g];
                call = "lay(" + n + ", " + bits + ", " + n0 + ", " + g + ")";
                same(x.lay(n, bits, n0, g, 0), row == null ? -1 : changes(row, n));
                same(x.lay(n, bits, n0, g, 1), row == null ? -1 : wheels(row, n));
                for (int i = 0; i < n; i++) same(x.laid(n, bits, n0, g, i), row == null ? -1 : row[i]);
            }
        }
    }

    private static void allTurns() {
        for (int n = 1; n <= 8; n++) {
            turns(n, 4);
            turns(n, 0, 9);
            turns(n, 2, 3, 6);
            turns(n, 0, 2, 4, 7);
        }
    }

    public static void main(String[] args) {
        for (int i = 1; i <= RUNS && wrong < 20; i++) run(i);
        allTurns();
        System.out.println(wrong == 0 ? "the class answers as the model does" : wrong + " answers differ");
        if (wrong != 0) System.exit(1);
    }
}
