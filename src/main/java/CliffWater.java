import java.util.Arrays;

/**
 * Water led along cliffs: a net of springs, tanks, wheels and fields stepped by quarter hours, the
 * deeds that turn its gates, the statute that shares the work, turns by search, and gauges.
 */
public final class CliffWater {
    public static final int NONE = -1;

    private static final int NO_SUCH = -2;
    private static final int NO_OWED = -100000;

    private static final int SPRING = 0;
    private static final int TANK = 2;
    private static final int WHEEL = 3;
    private static final int FIELD = 4;
    private static final int[] SMALLEST = {0, 0, 1, 1, 1};
    private static final int[] GREATEST = {999, 0, 99999, 500, 99999};

    private static final int MAX_NODES = 10;
    private static final int MAX_CHANNELS = 14;
    private static final int MAX_LEAK = 500;
    private static final int MAX_TRAVEL = 8;
    private static final int MAX_LITRES = 9999;
    private static final int RUNS = 2;
    private static final int LEAST = 0;
    private static final int MOST = 1;

    private static final int QUARTERS_OF_HOUR = 4;
    private static final int QUARTERS_OF_DAY = 96;
    private static final int QUARTERS_OF_WEEK = 672;
    private static final int HOURS_OF_DAY = 24;
    private static final int HOURS_OF_WEEK = 168;
    private static final int LAST_QUARTER = 9599;
    private static final int MAX_GO = 96;
    private static final int MAX_HOURS = 2400;
    private static final int WEEKS = 100;
    private static final int HOLDERS = 8;
    private static final int MAX_DEEDS = 120;

    private static final int MAX_TAPE = 500;
    private static final int MAX_LINES = 16;
    private static final int MAX_TESTS = 4;
    private static final int MAX_DIGITS = 4;
    private static final int MAX_CUT = 100;
    private static final int MAX_YARDS = 9999;
    private static final int FAR_WITHOUT = 999;

    private static final int MAX_SLOTS = 8;
    private static final int MAX_MEMBERS = 4;
    private static final int MAX_NEED = 4;
    private static final int MAX_GAP = 7;
    private static final int FOR_WHEELS = 99;

    private static final int MAX_ROWS = 150;
    private static final int MAX_TOLERANCE = 999;
    private static final int IMAGES = 3;

    private final Told now;
    private final Told[] images;
    private final boolean[] imaged;
    private final Ways ways;
    private final Reader reader;
    private final Reckoning reckoning;
    private final Turns turns;

    public CliffWater() {
        now = new Told();
        images = new Told[IMAGES];
        for (int k = 0; k < IMAGES; k++) {
            images[k] = new Told();
        }
        imaged = new boolean[IMAGES];
        ways = new Ways();
        reader = new Reader();
        reckoning = new Reckoning();
        turns = new Turns();
    }

    // Nodes, channels, water

    public int node(int kind, int size) {
        Net net = now.net;
        if (net.nodes >= MAX_NODES || !Net.fits(kind, size)) {
            return NONE;
        }
        return net.addNode(kind, size);
    }

    public int channel(int from, int to, int low, int high, int travel, int breadth) {
        Net net = now.net;
        if (net.channels >= MAX_CHANNELS || !net.hasNode(from) || !net.hasNode(to)) {
            return NONE;
        }
        if (from >= to || net.isField(from)) {
            return NONE;
        }
        if (!within(low, 0, MAX_LEAK) || !within(high, low, MAX_LEAK)) {
            return NONE;
        }
        if (!within(travel, 0, MAX_TRAVEL) || !within(breadth, 1, MAX_LITRES)) {
            return NONE;
        }
        int c = net.addChannel(from, to);
        if (net.hasChannel(c)) {
            net.low[c] = low;
            net.high[c] = high;
            net.travel[c] = travel;
            net.breadth[c] = breadth;
        }
        return c;
    }

    public boolean size(int node, int size) {
        Net net = now.net;
        if (!net.hasNode(node) || !Net.fits(net.kinds[node], size)) {
            return false;
        }
        if (net.kinds[node] == TANK && size < net.kept[MOST][node]) {
            return false;
        }
        net.sizes[node] = size;
        return true;
    }

    public boolean broken(int channel, boolean is) {
        Net net = now.net;
        if (!net.hasChannel(channel) || net.breaks[channel] == is) {
            return false;
        }
        net.breaks[channel] = is;
        if (is) {
            net.loseUnderWay(channel);
        }
        return true;
    }

    public boolean open(int node, int channel) {
        Net net = now.net;
        if (!net.hasNode(node)) {
            return false;
        }
        if (channel != NONE && (!net.hasChannel(channel) || net.from[channel] != node)) {
            return false;
        }
        net.gates[node] = channel;
        return true;
    }

    public int path(int from, int to) {
        return ways.find(now.net, from, to) ? ways.travelFrom(from) : NONE;
    }

    public int along(int from, int to, int i) {
        return ways.find(now.net, from, to) ? ways.channelAt(now.net, from, i) : NONE;
    }

    public int go(int n) {
        Net net = now.net;
        if (!within(n, 1, MAX_GO) || net.quarter + n > LAST_QUARTER) {
            return NONE;
        }
        for (int i = 0; i < n; i++) {
            if (net.quarter % QUARTERS_OF_HOUR == 0) {
                beginHour();
            }
            net.passQuarter();
        }
        return net.quarter;
    }

    public int about(int node, int what) {
        Net net = now.net;
        if (!net.hasNode(node)) {
            return NO_SUCH;
        }
        switch (what) {
            case 0:
                return net.kinds[node];
            case 1:
                return net.sizes[node];
            case 2:
                return net.gates[node];
            case 3:
                return net.kept[LEAST][node];
            case 4:
                return net.kept[MOST][node];
            default:
                return NO_SUCH;
        }
    }

    public int look(int channel, int what) {
        Net net = now.net;
        if (!net.hasChannel(channel)) {
            return NO_SUCH;
        }
        switch (what) {
            case 0:
                return net.from[channel];
            case 1:
                return net.to[channel];
            case 2:
                return net.low[channel];
            case 3:
                return net.high[channel];
            case 4:
                return net.travel[channel];
            case 5:
                return net.breadth[channel];
            case 6:
                return net.breaks[channel] ? 1 : 0;
            case 7:
                return net.underWay(LEAST, channel);
            case 8:
                return net.underWay(MOST, channel);
            default:
                return NO_SUCH;
        }
    }

    public int all(int what, boolean most) {
        Net net = now.net;
        int run = most ? MOST : LEAST;
        switch (what) {
            case 0:
                return net.sumOfKind(run, SPRING);
            case 1:
                return net.sumOfKind(run, FIELD);
            case 2:
                return net.sumOfKind(run, TANK);
            case 3:
                return net.allUnderWay(run);
            case 4:
                return net.spilt[run];
            case 5:
                return net.leaked[run];
            case 6:
                return net.lost[run];
            default:
                return NONE;
        }
    }

    // Holders, deeds, hours

    public boolean field(int holder, int node) {
        if (!isHolder(holder) || (node != NONE && !now.net.isField(node))) {
            return false;
        }
        now.rights.homes[holder] = node;
        return true;
    }

    public int deed(int a, int b, int holder, int week) {
        if (now.rights.deeds >= MAX_DEEDS || !isHolder(holder) || !isWeek(week)) {
            return NONE;
        }
        if (!within(a, 0, HOURS_OF_WEEK - 1) || !within(b, a, HOURS_OF_WEEK - 1)) {
            return NONE;
        }
        int d = now.rights.addDeed(a, b);
        if (now.rights.hasDeed(d)) {
            now.rights.whose[d] = holder;
            now.rights.since[d] = week;
            now.rights.day[d] = today();
            now.rights.voidDay[d] = NONE;
        }
        return d;
    }

    public boolean annul(int deed) {
        if (!now.rights.hasDeed(deed) || now.rights.voidDay[deed] != NONE) {
            return false;
        }
        now.rights.voidDay[deed] = today();
        return true;
    }

    public int written(int deed, int what) {
        Rights rights = now.rights;
        if (!rights.hasDeed(deed)) {
            return NO_SUCH;
        }
        switch (what) {
            case 0:
                return rights.first[deed];
            case 1:
                return rights.last[deed];
            case 2:
                return rights.whose[deed];
            case 3:
                return rights.since[deed];
            case 4:
                return rights.day[deed];
            case 5:
                return rights.voidDay[deed];
            default:
                return NO_SUCH;
        }
    }

    public int owner(int hour, int week, int k) {
        if (!within(hour, 0, HOURS_OF_WEEK - 1) || !isWeek(week) || !within(k, 0, today())) {
            return NO_SUCH;
        }
        return now.rights.ownerOf(hour, week, k);
    }

    public int ran(int i) {
        if (!within(i, 0, now.rights.hours - 1) || i >= MAX_HOURS) {
            return NO_SUCH;
        }
        return now.rights.runs[i];
    }

    public int owed(int holder) {
        if (!isHolder(holder)) {
            return NO_OWED;
        }
        reckoning.reckonOwed(now.rights);
        return reckoning.owing[holder];
    }

    // The tape, the statute, holders under it

    public int feed(int a, int b, int c, int d, int e) {
        Law law = now.law;
        if (!law.hasRoomFor(20)) {
            return NONE;
        }
        law.append(a);
        law.append(b);
        law.append(c);
        law.append(d);
        law.append(e);
        return law.length;
    }

    public int end(int n) {
        if (!within(n, 0, now.law.length)) {
            return NONE;
        }
        now.law.length = n;
        return n;
    }

    public int statute() {
        Law law = now.law;
        reader.read(law.tape, law.length);
        law.length = 0;
        law.faultKind = reader.faultKind;
        law.faultPlace = reader.faultPlace;
        if (reader.faultKind != 0) {
            return NONE;
        }
        law.lines.copyFrom(reader.lines);
        return law.lines.total;
    }

    public int fault(int what) {
        switch (what) {
            case 0:
                return now.law.faultKind;
            case 1:
                return now.law.faultPlace;
            default:
                return NONE;
        }
    }

    public boolean dry(int week, boolean is) {
        if (!isWeek(week) || now.law.dryWeeks[week] == is) {
            return false;
        }
        now.law.dryWeeks[week] = is;
        return true;
    }

    public int holder(int holder, int week, int what) {
        if (!isHolder(holder) || !isWeek(week) || !within(what, 0, 5)) {
            return NONE;
        }
        reckoning.reckon(now, week, ways);
        switch (what) {
            case 0:
                return reckoning.hours[holder];
            case 1:
                return reckoning.nights[holder];
            case 2:
                return reckoning.weights[holder];
            case 3:
                return reckoning.cuts[holder];
            case 4:
                return reckoning.leftTo(holder);
            default:
                return reckoning.fars[holder];
        }
    }

    public int duty(int y, int week, int holder) {
        if (!within(y, 0, MAX_YARDS) || !isWeek(week) || !isHolder(holder)) {
            return NONE;
        }
        reckoning.reckon(now, week, ways);
        return reckoning.shareOf(y, holder);
    }

    // Laid turns

    public int lay(int n, int fields, int n0, int g, int what) {
        if (!within(what, 0, 1) || !findTurns(n, fields, n0, g)) {
            return NONE;
        }
        return what == 0 ? turns.bestChanges : turns.bestWheels;
    }

    public int laid(int n, int fields, int n0, int g, int i) {
        if (!within(i, 0, n - 1) || !findTurns(n, fields, n0, g)) {
            return NONE;
        }
        return turns.nodeAt(i);
    }

    // Gauges

    public int gauge(int channel, int quarter, int in, int out) {
        Gauges gauges = now.gauges;
        if (gauges.rows >= MAX_ROWS || !now.net.hasChannel(channel)) {
            return NONE;
        }
        if (!within(quarter, 0, now.net.quarter)) {
            return NONE;
        }
        if (!within(in, 0, MAX_LITRES) || !within(out, 0, MAX_LITRES)) {
            return NONE;
        }
        return gauges.addRow(channel, quarter, in, out);
    }

    public int stolen(int channel, int t, int what) {
        Net net = now.net;
        if (!net.hasChannel(channel) || !within(t, 0, MAX_TOLERANCE)) {
            return NONE;
        }
        switch (what) {
            case 0:
                return now.gauges.rowsThatCount(channel);
            case 1:
                return now.gauges.rowsThatClose(net, channel, t);
            case 2:
                return now.gauges.rowsStolen(net, channel, t);
            case 3:
                return now.gauges.longestRun(net, channel, t, false);
            case 4:
                return now.gauges.longestRun(net, channel, t, true);
            case 5:
                return now.gauges.litresLacking(net, channel, t);
            default:
                return NONE;
        }
    }

    // Counts and images

    public int count(int what) {
        switch (what) {
            case 0:
                return now.net.nodes;
            case 1:
                return now.net.channels;
            case 2:
                return now.rights.deeds;
            case 3:
                return now.net.quarter;
            case 4:
                return today();
            case 5:
                return now.net.quarter / QUARTERS_OF_WEEK;
            case 6:
                return now.rights.hours;
            case 7:
                return now.law.lines.total;
            case 8:
                return now.gauges.rows;
            case 9:
                return now.net.brokenChannels();
            case 10:
                return now.law.countDry();
            default:
                return NONE;
        }
    }

    public boolean image(int k) {
        if (!within(k, 0, IMAGES - 1) || images[k] == null) {
            return false;
        }
        images[k].copyFrom(now);
        imaged[k] = true;
        return true;
    }

    public boolean again(int k) {
        if (!within(k, 0, IMAGES - 1) || !imaged[k] || images[k] == null) {
            return false;
        }
        now.copyFrom(images[k]);
        return true;
    }

    // Helpers of several calls

    private static boolean within(int x, int low, int high) {
        return x >= low && x <= high;
    }

    private static boolean isHolder(int holder) {
        return within(holder, 0, HOLDERS - 1);
    }

    private static boolean isWeek(int week) {
        return within(week, 0, WEEKS - 1);
    }

    private int today() {
        return now.net.quarter / QUARTERS_OF_DAY;
    }

    private void beginHour() {
        Rights rights = now.rights;
        int hour = now.net.quarter / QUARTERS_OF_HOUR;
        int who = rights.ownerOf(hour % HOURS_OF_WEEK, hour / HOURS_OF_WEEK, today());
        rights.keepRun(who);
        if (isHolder(who) && ways.find(now.net, 0, rights.homes[who])) {
            ways.turnGates(now.net, 0);
        }
    }

    private boolean findTurns(int n, int fields, int n0, int g) {
        if (!within(n, 1, MAX_SLOTS) || !within(n0, 1, MAX_NEED) || !within(g, 0, MAX_GAP)) {
            return false;
        }
        int members = Integer.bitCount(fields);
        if (!within(members, 1, MAX_MEMBERS) || !now.net.areFields(fields)) {
            return false;
        }
        return turns.search(n, fields, n0, g);
    }

    private static void copyInts(int[] source, int[] target) {
        System.arraycopy(source, 0, target, 0, Math.min(source.length, target.length));
    }

    private static void copyBytes(byte[] source, byte[] target) {
        System.arraycopy(source, 0, target, 0, Math.min(source.length, target.length));
    }

    private static void copyFlags(boolean[] source, boolean[] target) {
        System.arraycopy(source, 0, target, 0, Math.min(source.length, target.length));
    }

    /** All that is told: what an image keeps. */
    private static final class Told {
        final Net net = new Net();
        final Rights rights = new Rights();
        final Law law = new Law();
        final Gauges gauges = new Gauges();

        void copyFrom(Told other) {
            net.copyFrom(other.net);
            rights.copyFrom(other.rights);
            law.copyFrom(other.law);
            gauges.copyFrom(other.gauges);
        }
    }

    /** The nodes and channels, and the water in them in both runs. */
    private static final class Net {
        /** A ring of one place more than the longest travel, so that none is filled before it is emptied. */
        private static final int RING = MAX_TRAVEL + 1;

        int quarter;
        int nodes;
        final int[] kinds = new int[MAX_NODES];
        final int[] sizes = new int[MAX_NODES];
        final int[] gates = new int[MAX_NODES];
        /** Of a field what it took, of a tank what it holds, of a wheel its power, of a spring what it gave. */
        final int[][] kept = new int[RUNS][MAX_NODES];
        int channels;
        final int[] from = new int[MAX_CHANNELS];
        final int[] to = new int[MAX_CHANNELS];
        final int[] low = new int[MAX_CHANNELS];
        final int[] high = new int[MAX_CHANNELS];
        final int[] travel = new int[MAX_CHANNELS];
        final int[] breadth = new int[MAX_CHANNELS];
        final boolean[] breaks = new boolean[MAX_CHANNELS];
        final int[][] flows = new int[RUNS][MAX_CHANNELS * RING];
        final int[] spilt = new int[RUNS];
        final int[] leaked = new int[RUNS];
        final int[] lost = new int[RUNS];

        static boolean fits(int kind, int size) {
            if (kind < 0 || kind >= SMALLEST.length || kind >= GREATEST.length) {
                return false;
            }
            return within(size, SMALLEST[kind], GREATEST[kind]);
        }

        boolean hasNode(int v) {
            return v >= 0 && v < nodes && v < MAX_NODES;
        }

        boolean hasChannel(int c) {
            return c >= 0 && c < channels && c < MAX_CHANNELS;
        }

        boolean isField(int v) {
            return hasNode(v) && kinds[v] == FIELD;
        }

        boolean areFields(int bits) {
            if (bits < 0 || bits >= 1 << MAX_NODES) {
                return false;
            }
            for (int v = 0; v < MAX_NODES; v++) {
                if ((bits >> v & 1) == 1 && !isField(v)) {
                    return false;
                }
            }
            return true;
        }

        int addNode(int kind, int size) {
            if (nodes >= MAX_NODES) {
                return NONE;
            }
            kinds[nodes] = kind;
            sizes[nodes] = size;
            gates[nodes] = NONE;
            return nodes++;
        }

        int addChannel(int source, int target) {
            if (channels >= MAX_CHANNELS) {
                return NONE;
            }
            from[channels] = source;
            to[channels] = target;
            return channels++;
        }

        int underWay(int run, int c) {
            int sum = 0;
            for (int i = 0; i < RING; i++) {
                sum += flows[run][c * RING + i];
            }
            return sum;
        }

        int allUnderWay(int run) {
            int sum = 0;
            for (int c = 0; c < channels; c++) {
                sum += underWay(run, c);
            }
            return sum;
        }

        int sumOfKind(int run, int kind) {
            int sum = 0;
            for (int v = 0; v < nodes; v++) {
                if (kinds[v] == kind) {
                    sum += kept[run][v];
                }
            }
            return sum;
        }

        int brokenChannels() {
            int sum = 0;
            for (int c = 0; c < channels; c++) {
                if (breaks[c]) {
                    sum++;
                }
            }
            return sum;
        }

        void loseUnderWay(int c) {
            for (int run = 0; run < RUNS; run++) {
                lost[run] += underWay(run, c);
                for (int i = 0; i < RING; i++) {
                    flows[run][c * RING + i] = 0;
                }
            }
        }

        void passQuarter() {
            for (int run = 0; run < RUNS; run++) {
                for (int v = 0; v < nodes; v++) {
                    passNode(run, v);
                }
            }
            quarter++;
        }

        private void passNode(int run, int v) {
            int came = takeArrivals(run, v);
            switch (kinds[v]) {
                case FIELD:
                    kept[run][v] += came;
                    break;
                case TANK:
                    passTank(run, v, came);
                    break;
                case SPRING:
                    kept[run][v] += sizes[v];
                    passOn(run, v, came + sizes[v]);
                    break;
                case WHEEL:
                    kept[run][v] += outOf(v, came) * sizes[v] / 100;
                    passOn(run, v, came);
                    break;
                default:
                    passOn(run, v, came);
                    break;
            }
        }

        private void passTank(int run, int v, int came) {
            int all = kept[run][v] + came;
            int held = Math.min(all, sizes[v]);
            int out = outOf(v, held);
            spilt[run] += all - held;
            kept[run][v] = held - out;
            send(run, gates[v], out);
        }

        private void passOn(int run, int v, int came) {
            int out = outOf(v, came);
            spilt[run] += came - out;
            send(run, gates[v], out);
        }

        private int takeArrivals(int run, int v) {
            int came = 0;
            for (int c = 0; c < channels; c++) {
                if (to[c] == v) {
                    int place = placeAt(c, quarter);
                    came += flows[run][place];
                    flows[run][place] = 0;
                }
            }
            return came;
        }

        private int outOf(int v, int there) {
            int c = gates[v];
            return hasChannel(c) ? Math.min(there, breadth[c]) : 0;
        }

        private void send(int run, int c, int out) {
            if (!hasChannel(c)) {
                return;
            }
            if (breaks[c]) {
                lost[run] += out;
                return;
            }
            int leak = out * (run == LEAST ? high[c] : low[c]) / 1000;
            leaked[run] += leak;
            flows[run][placeAt(c, quarter + travel[c])] += out - leak;
        }

        private static int placeAt(int c, int when) {
            return c * RING + when % RING;
        }

        void copyFrom(Net other) {
            quarter = other.quarter;
            nodes = other.nodes;
            channels = other.channels;
            copyInts(other.kinds, kinds);
            copyInts(other.sizes, sizes);
            copyInts(other.gates, gates);
            copyInts(other.from, from);
            copyInts(other.to, to);
            copyInts(other.low, low);
            copyInts(other.high, high);
            copyInts(other.travel, travel);
            copyInts(other.breadth, breadth);
            copyFlags(other.breaks, breaks);
            for (int run = 0; run < RUNS; run++) {
                copyInts(other.kept[run], kept[run]);
                copyInts(other.flows[run], flows[run]);
            }
            copyInts(other.spilt, spilt);
            copyInts(other.leaked, leaked);
            copyInts(other.lost, lost);
        }
    }

    /** The path to one node: from each node the first channel, travel and channels of the best rest. */
    private static final class Ways {
        private final int[] travels = new int[MAX_NODES];
        private final int[] steps = new int[MAX_NODES];
        private final int[] nexts = new int[MAX_NODES];
        private int target;

        boolean find(Net net, int from, int to) {
            if (!net.hasNode(from) || !net.hasNode(to) || from >= to) {
                return false;
            }
            Arrays.fill(nexts, NONE);
            target = to;
            travels[to] = 0;
            steps[to] = 0;
            for (int v = to - 1; v >= from; v--) {
                findNext(net, v);
            }
            return nexts[from] != NONE;
        }

        /** Only a strictly better channel takes the place, so the least number stays: the least row. */
        private void findNext(Net net, int v) {
            for (int c = 0; c < net.channels; c++) {
                if (net.from[c] == v && !net.breaks[c] && reaches(net.to[c])) {
                    int w = net.to[c];
                    int travel = travels[w] + net.travel[c];
                    int step = steps[w] + 1;
                    boolean better = travel < travels[v] || (travel == travels[v] && step < steps[v]);
                    if (nexts[v] == NONE || better) {
                        nexts[v] = c;
                        travels[v] = travel;
                        steps[v] = step;
                    }
                }
            }
        }

        private boolean reaches(int v) {
            return v == target || (within(v, 0, MAX_NODES - 1) && nexts[v] != NONE);
        }

        int travelFrom(int v) {
            return within(v, 0, MAX_NODES - 1) ? travels[v] : NONE;
        }

        int channelAt(Net net, int from, int i) {
            if (!within(from, 0, MAX_NODES - 1) || !within(i, 0, steps[from] - 1)) {
                return NONE;
            }
            int c = nexts[from];
            for (int step = 0; step < i && net.hasChannel(c); step++) {
                int v = net.to[c];
                c = net.hasNode(v) ? nexts[v] : NONE;
            }
            return c;
        }

        void turnGates(Net net, int from) {
            int v = from;
            for (int step = 0; step < MAX_NODES && v != target && net.hasNode(v); step++) {
                int c = nexts[v];
                net.gates[v] = c;
                v = net.hasChannel(c) ? net.to[c] : target;
            }
        }
    }

    /** Who has which field, the deeds, and for whom each hour ran. */
    private static final class Rights {
        final int[] homes = new int[HOLDERS];
        int deeds;
        final int[] first = new int[MAX_DEEDS];
        final int[] last = new int[MAX_DEEDS];
        final int[] whose = new int[MAX_DEEDS];
        final int[] since = new int[MAX_DEEDS];
        final int[] day = new int[MAX_DEEDS];
        final int[] voidDay = new int[MAX_DEEDS];
        int hours;
        final byte[] runs = new byte[MAX_HOURS];

        Rights() {
            Arrays.fill(homes, NONE);
        }

        boolean hasDeed(int d) {
            return d >= 0 && d < deeds && d < MAX_DEEDS;
        }

        int addDeed(int a, int b) {
            if (deeds >= MAX_DEEDS) {
                return NONE;
            }
            first[deeds] = a;
            last[deeds] = b;
            return deeds++;
        }

        /** Deeds stand in the order of their writing, so of the same week the later one wins. */
        int ownerOf(int hour, int week, int asOf) {
            int owner = NONE;
            int from = 0;
            for (int d = 0; d < deeds; d++) {
                boolean ofHour = first[d] <= hour && hour <= last[d];
                if (ofHour && since[d] <= week && since[d] >= from && isKnown(d, asOf)) {
                    owner = whose[d];
                    from = since[d];
                }
            }
            return owner;
        }

        private boolean isKnown(int d, int asOf) {
            return day[d] <= asOf && (voidDay[d] == NONE || voidDay[d] > asOf);
        }

        /** Lays the deeds from one week over the owners of the weeks before it, as known now. */
        void layOver(int week, int[] owners) {
            for (int d = 0; d < deeds; d++) {
                if (since[d] == week && voidDay[d] == NONE) {
                    for (int h = first[d]; h <= last[d] && h < owners.length; h++) {
                        owners[h] = whose[d];
                    }
                }
            }
        }

        void keepRun(int who) {
            if (hours < MAX_HOURS) {
                runs[hours] = (byte) who;
                hours++;
            }
        }

        void copyFrom(Rights other) {
            copyInts(other.homes, homes);
            deeds = other.deeds;
            copyInts(other.first, first);
            copyInts(other.last, last);
            copyInts(other.whose, whose);
            copyInts(other.since, since);
            copyInts(other.day, day);
            copyInts(other.voidDay, voidDay);
            hours = other.hours;
            copyBytes(other.runs, runs);
        }
    }

    /** The lines of a statute; test i of line k stands at k * MAX_TESTS + i. */
    private static final class Lines {
        int total;
        final int[] acts = new int[MAX_LINES];
        final int[] numbers = new int[MAX_LINES];
        final int[] tests = new int[MAX_LINES];
        final boolean[] nots = new boolean[MAX_LINES * MAX_TESTS];
        final int[] facts = new int[MAX_LINES * MAX_TESTS];
        final int[] signs = new int[MAX_LINES * MAX_TESTS];
        final int[] limits = new int[MAX_LINES * MAX_TESTS];

        void copyFrom(Lines other) {
            total = other.total;
            copyInts(other.acts, acts);
            copyInts(other.numbers, numbers);
            copyInts(other.tests, tests);
            copyFlags(other.nots, nots);
            copyInts(other.facts, facts);
            copyInts(other.signs, signs);
            copyInts(other.limits, limits);
        }
    }

    /** The tape, the latest fault, the statute and the dry weeks. */
    private static final class Law {
        int length;
        final byte[] tape = new byte[MAX_TAPE];
        int faultKind;
        int faultPlace = NONE;
        final Lines lines = new Lines();
        final boolean[] dryWeeks = new boolean[WEEKS];

        boolean hasRoomFor(int bytes) {
            return length + bytes <= MAX_TAPE;
        }

        void append(int number) {
            for (int shift = 24; shift >= 0 && length < MAX_TAPE; shift -= 8) {
                tape[length] = (byte) (number >> shift);
                length++;
            }
        }

        int countDry() {
            int sum = 0;
            for (int w = 0; w < WEEKS; w++) {
                if (dryWeeks[w]) {
                    sum++;
                }
            }
            return sum;
        }

        void copyFrom(Law other) {
            length = other.length;
            copyBytes(other.tape, tape);
            faultKind = other.faultKind;
            faultPlace = other.faultPlace;
            lines.copyFrom(other.lines);
            copyFlags(other.dryWeeks, dryWeeks);
        }
    }

    /** The words and signs of a statute's text, by their numbers. */
    private static final class Tokens {
        static final int BAD = 0;
        static final int IF = 1;
        static final int AND = 2;
        static final int NOT = 3;
        static final int WEIGHT = 4;
        static final int CUT = 5;
        static final int FREE = 6;
        static final int DRY = 7;
        static final int HOURS = 8;
        static final int NIGHT = 9;
        static final int FAR = 10;
        static final int HOLDER = 11;
        static final int OWED = 12;
        static final int COLON = 13;
        static final int STOP = 14;
        static final int BELOW = 15;
        static final int ABOVE = 16;
        static final int EQUAL = 17;
        static final int NUMBER = 18;
        static final int END = 19;

        private Tokens() {
        }

        static boolean isBlank(int b) {
            return b == 10 || b == 32;
        }

        static boolean isLetter(int b) {
            return b >= 'a' && b <= 'z';
        }

        static boolean isDigit(int b) {
            return b >= '0' && b <= '9';
        }

        static boolean isSign(int token) {
            return token == BELOW || token == ABOVE || token == EQUAL;
        }

        static boolean isFact(int token) {
            return token >= DRY && token <= OWED;
        }

        static int signOf(int b) {
            switch (b) {
                case ':':
                    return COLON;
                case ';':
                    return STOP;
                case '<':
                    return BELOW;
                case '>':
                    return ABOVE;
                case '=':
                    return EQUAL;
                default:
                    return BAD;
            }
        }

        static int wordOf(byte[] tape, int start, int end) {
            for (int token = IF; token <= OWED; token++) {
                if (isWord(tape, start, end, textOf(token))) {
                    return token;
                }
            }
            return BAD;
        }

        private static String textOf(int token) {
            switch (token) {
                case IF:
                    return "if";
                case AND:
                    return "and";
                case NOT:
                    return "not";
                case WEIGHT:
                    return "weight";
                case CUT:
                    return "cut";
                case FREE:
                    return "free";
                case DRY:
                    return "dry";
                case HOURS:
                    return "hours";
                case NIGHT:
                    return "night";
                case FAR:
                    return "far";
                case HOLDER:
                    return "holder";
                default:
                    return "owed";
            }
        }

        private static boolean isWord(byte[] tape, int start, int end, String word) {
            if (end - start != word.length() || start < 0 || end > tape.length) {
                return false;
            }
            for (int i = 0; i < word.length(); i++) {
                if (tape[start + i] != word.charAt(i)) {
                    return false;
                }
            }
            return true;
        }
    }

    /** Reads a text token by token; where it stands in a line is its state. */
    private static final class Reader {
        private static final int AT_LINE = 0;
        private static final int AT_TEST = 1;
        private static final int AT_FACT = 2;
        private static final int AT_SIGN = 3;
        private static final int AT_LIMIT = 4;
        private static final int AT_AND = 5;
        private static final int AT_ACT = 6;
        private static final int AT_NUMBER = 7;
        private static final int AT_STOP = 8;

        final Lines lines = new Lines();
        int faultKind;
        int faultPlace;
        private int state;
        private int at;
        private int place;
        private int token;
        private int number;
        private boolean not;
        private int fact;
        private int sign;

        void read(byte[] tape, int length) {
            int bytes = Math.min(length, tape.length);
            lines.total = 0;
            faultKind = 0;
            faultPlace = NONE;
            state = AT_LINE;
            at = 0;
            for (int i = 0; i <= bytes; i++) {
                nextToken(tape, bytes);
                if (token == Tokens.END && state == AT_LINE) {
                    return;
                }
                if (!goesOn()) {
                    faultKind = 1;
                    faultPlace = place;
                    return;
                }
            }
        }

        private void nextToken(byte[] tape, int length) {
            while (at < length && Tokens.isBlank(tape[at])) {
                at++;
            }
            place = at;
            if (at >= length) {
                token = Tokens.END;
            } else if (Tokens.isLetter(tape[at])) {
                takeWord(tape, length);
            } else if (Tokens.isDigit(tape[at])) {
                takeNumber(tape, length);
            } else {
                token = Tokens.signOf(tape[at]);
                at++;
            }
        }

        private void takeWord(byte[] tape, int length) {
            while (at < length && Tokens.isLetter(tape[at])) {
                at++;
            }
            token = Tokens.wordOf(tape, place, at);
        }

        private void takeNumber(byte[] tape, int length) {
            number = 0;
            while (at < length && Tokens.isDigit(tape[at])) {
                if (at - place < MAX_DIGITS) {
                    number = number * 10 + tape[at] - '0';
                }
                at++;
            }
            token = at - place <= MAX_DIGITS ? Tokens.NUMBER : Tokens.BAD;
        }

        private boolean goesOn() {
            switch (state) {
                case AT_LINE:
                    return beginLine();
                case AT_TEST:
                    return beginTest();
                case AT_FACT:
                    return takeFact();
                case AT_SIGN:
                    return takeSign();
                case AT_LIMIT:
                    return takeLimit();
                case AT_AND:
                    return takeAnd();
                case AT_ACT:
                    return takeAct();
                case AT_NUMBER:
                    return takeActNumber();
                default:
                    state = AT_LINE;
                    return token == Tokens.STOP;
            }
        }

        private boolean beginLine() {
            if (lines.total < MAX_LINES) {
                lines.tests[lines.total] = 0;
                lines.total++;
            } else {
                noteFault(3);
            }
            if (token == Tokens.IF) {
                state = AT_TEST;
                return true;
            }
            return takeAct();
        }

        private boolean beginTest() {
            int line = lines.total - 1;
            if (within(line, 0, MAX_LINES - 1) && lines.tests[line] >= MAX_TESTS) {
                noteFault(3);
            }
            not = token == Tokens.NOT;
            if (not) {
                state = AT_FACT;
                return true;
            }
            return takeFact();
        }

        private boolean takeFact() {
            if (!Tokens.isFact(token)) {
                return false;
            }
            fact = token;
            if (fact == Tokens.DRY) {
                sign = Tokens.EQUAL;
                keepTest(1);
                state = AT_AND;
            } else {
                state = AT_SIGN;
            }
            return true;
        }

        private boolean takeSign() {
            sign = token;
            state = AT_LIMIT;
            return Tokens.isSign(token);
        }

        private boolean takeLimit() {
            if (token != Tokens.NUMBER) {
                return false;
            }
            keepTest(number);
            state = AT_AND;
            return true;
        }

        private boolean takeAnd() {
            state = token == Tokens.AND ? AT_TEST : AT_ACT;
            return token == Tokens.AND || token == Tokens.COLON;
        }

        private boolean takeAct() {
            int line = lines.total - 1;
            if (within(line, 0, MAX_LINES - 1)) {
                lines.acts[line] = token;
                lines.numbers[line] = 0;
            }
            state = token == Tokens.FREE ? AT_STOP : AT_NUMBER;
            return token == Tokens.WEIGHT || token == Tokens.CUT || token == Tokens.FREE;
        }

        private boolean takeActNumber() {
            int line = lines.total - 1;
            if (token != Tokens.NUMBER || !within(line, 0, MAX_LINES - 1)) {
                return false;
            }
            if (lines.acts[line] == Tokens.CUT && number > MAX_CUT) {
                noteFault(2);
            }
            lines.numbers[line] = number;
            state = AT_STOP;
            return true;
        }

        private void keepTest(int limit) {
            int line = lines.total - 1;
            if (!within(line, 0, MAX_LINES - 1) || !within(lines.tests[line], 0, MAX_TESTS - 1)) {
                return;
            }
            int test = line * MAX_TESTS + lines.tests[line];
            lines.nots[test] = not;
            lines.facts[test] = fact;
            lines.signs[test] = sign;
            lines.limits[test] = limit;
            lines.tests[line]++;
        }

        /** Only the first one counts, and a fault of kind 1 further on goes ahead of it. */
        private void noteFault(int kind) {
            if (faultKind == 0) {
                faultKind = kind;
                faultPlace = place;
            }
        }
    }

    /** What is reckoned of all holders in one week, as known now. */
    private static final class Reckoning {
        final int[] owing = new int[HOLDERS];
        final int[] hours = new int[HOLDERS];
        final int[] nights = new int[HOLDERS];
        final int[] fars = new int[HOLDERS];
        final int[] weights = new int[HOLDERS];
        final int[] cuts = new int[HOLDERS];
        private final int[] owners = new int[HOURS_OF_WEEK];
        private boolean dryWeek;

        void reckonOwed(Rights rights) {
            Arrays.fill(owing, 0);
            Arrays.fill(owners, NONE);
            for (int week = 0; week < WEEKS && week * HOURS_OF_WEEK < rights.hours; week++) {
                rights.layOver(week, owners);
                for (int h = 0; h < HOURS_OF_WEEK; h++) {
                    int hour = week * HOURS_OF_WEEK + h;
                    if (hour < rights.hours && hour < MAX_HOURS) {
                        compareHour(owners[h], rights.runs[hour]);
                    }
                }
            }
        }

        private void compareHour(int own, int ranFor) {
            if (own == ranFor) {
                return;
            }
            if (isHolder(own)) {
                owing[own]++;
            }
            if (isHolder(ranFor)) {
                owing[ranFor]--;
            }
        }

        void reckon(Told told, int week, Ways ways) {
            reckonOwed(told.rights);
            reckonHours(told.rights, week);
            dryWeek = isWeek(week) && told.law.dryWeeks[week];
            for (int who = 0; who < HOLDERS; who++) {
                boolean is = ways.find(told.net, 0, told.rights.homes[who]);
                fars[who] = is ? ways.travelFrom(0) : FAR_WITHOUT;
                judge(told.law.lines, who);
            }
        }

        private void reckonHours(Rights rights, int week) {
            Arrays.fill(hours, 0);
            Arrays.fill(nights, 0);
            Arrays.fill(owners, NONE);
            for (int w = 0; w <= week && w < WEEKS; w++) {
                rights.layOver(w, owners);
            }
            for (int h = 0; h < HOURS_OF_WEEK; h++) {
                int own = owners[h];
                if (isHolder(own)) {
                    int ofDay = h % HOURS_OF_DAY;
                    hours[own]++;
                    nights[own] += ofDay < 6 || ofDay >= 18 ? 1 : 0;
                }
            }
        }

        private void judge(Lines lines, int who) {
            weights[who] = 0;
            cuts[who] = 0;
            for (int line = 0; line < lines.total && line < MAX_LINES; line++) {
                if (allHold(lines, line, who)) {
                    switch (lines.acts[line]) {
                        case Tokens.WEIGHT:
                            weights[who] += lines.numbers[line];
                            break;
                        case Tokens.CUT:
                            cuts[who] = lines.numbers[line];
                            break;
                        default:
                            weights[who] = 0;
                            return;
                    }
                }
            }
        }

        private boolean allHold(Lines lines, int line, int who) {
            for (int i = 0; i < lines.tests[line] && i < MAX_TESTS; i++) {
                if (!holds(lines, line * MAX_TESTS + i, who)) {
                    return false;
                }
            }
            return true;
        }

        private boolean holds(Lines lines, int test, int who) {
            int value = factOf(lines.facts[test], who);
            int limit = lines.limits[test];
            boolean is;
            switch (lines.signs[test]) {
                case Tokens.BELOW:
                    is = value < limit;
                    break;
                case Tokens.ABOVE:
                    is = value > limit;
                    break;
                default:
                    is = value == limit;
                    break;
            }
            return is != lines.nots[test];
        }

        private int factOf(int fact, int who) {
            switch (fact) {
                case Tokens.HOURS:
                    return hours[who];
                case Tokens.NIGHT:
                    return nights[who];
                case Tokens.FAR:
                    return fars[who];
                case Tokens.HOLDER:
                    return who;
                case Tokens.OWED:
                    return Math.max(0, owing[who]);
                default:
                    return dryWeek ? 1 : 0;
            }
        }

        int leftTo(int who) {
            return hours[who] - hours[who] * cuts[who] / 100;
        }

        /** One yard more goes to those whose rest stands before so many as there are yards left. */
        int shareOf(int yards, int who) {
            long all = 0;
            for (int h = 0; h < HOLDERS; h++) {
                all += weights[h];
            }
            if (all <= 0) {
                return 0;
            }
            long left = yards;
            int ahead = 0;
            long rest = (long) yards * weights[who] % all;
            for (int h = 0; h < HOLDERS; h++) {
                long other = (long) yards * weights[h] % all;
                left -= (long) yards * weights[h] / all;
                if (other > rest || (other == rest && h < who)) {
                    ahead++;
                }
            }
            int whole = (int) ((long) yards * weights[who] / all);
            return ahead < left ? whole + 1 : whole;
        }
    }

    /**
     * Laid turns by search in the order of the rows. A choice is a member's place among the fields
     * that take part, or their number for the wheels.
     */
    private static final class Turns {
        int bestChanges;
        int bestWheels;
        private int slots;
        private int bits;
        private int need;
        private int gap;
        private boolean found;
        private int members;
        private final int[] nodes = new int[MAX_MEMBERS];
        private final int[] row = new int[MAX_SLOTS];
        private final int[] best = new int[MAX_SLOTS];
        private final int[] has = new int[MAX_MEMBERS];
        private final int[] nights = new int[MAX_MEMBERS];
        private final int[] latest = new int[MAX_MEMBERS];

        /** What was asked last is kept, since each slot of the same turns is asked for by itself. */
        boolean search(int n, int fields, int n0, int g) {
            if (n == slots && fields == bits && n0 == need && g == gap) {
                return found;
            }
            slots = n;
            bits = fields;
            need = n0;
            gap = g;
            found = false;
            listMembers();
            Arrays.fill(has, 0);
            Arrays.fill(nights, 0);
            Arrays.fill(latest, NONE);
            place(this, 0, 0, 0);
            return found;
        }

        int nodeAt(int slot) {
            if (!found || !within(slot, 0, slots - 1) || slot >= MAX_SLOTS) {
                return NONE;
            }
            int choice = best[slot];
            return within(choice, 0, members - 1) ? nodes[choice] : FOR_WHEELS;
        }

        private void listMembers() {
            members = 0;
            for (int v = 0; v < MAX_NODES && members < MAX_MEMBERS; v++) {
                if ((bits >> v & 1) == 1) {
                    nodes[members] = v;
                    members++;
                }
            }
        }

        private static void place(Turns t, int slot, int changes, int wheels) {
            if (slot >= t.slots || slot >= MAX_SLOTS) {
                t.keep(changes, wheels);
                return;
            }
            for (int choice = 0; choice <= t.members; choice++) {
                boolean change = slot > 0 && t.row[slot - 1] != choice;
                int changed = change ? changes + 1 : changes;
                int idle = choice == t.members ? wheels + 1 : wheels;
                if (t.canBeBetter(slot, changed, idle)) {
                    int before = t.put(slot, choice);
                    if (t.standsUpTo(slot)) {
                        place(t, slot + 1, changed, idle);
                    }
                    t.takeBack(slot, choice, before);
                }
            }
        }

        /** Rows come in their order, so a later one must be better, not as good. */
        private boolean canBeBetter(int slot, int changes, int wheels) {
            if (!found || changes < bestChanges) {
                return true;
            }
            return changes == bestChanges && wheels + slots - 1 - slot > bestWheels;
        }

        private int put(int slot, int choice) {
            row[slot] = choice;
            if (!within(choice, 0, members - 1)) {
                return NONE;
            }
            int before = latest[choice];
            latest[choice] = slot;
            has[choice]++;
            nights[choice] += slot % 2;
            return before;
        }

        private void takeBack(int slot, int choice, int before) {
            if (within(choice, 0, members - 1)) {
                latest[choice] = before;
                has[choice]--;
                nights[choice] -= slot % 2;
            }
        }

        /** No field is dry too long by now, and the slots that are left are enough for all needs. */
        private boolean standsUpTo(int slot) {
            int needed = 0;
            for (int m = 0; m < members; m++) {
                if (slot - latest[m] > gap) {
                    return false;
                }
                needed += Math.max(0, need - has[m]);
            }
            return needed <= slots - 1 - slot;
        }

        private void keep(int changes, int wheels) {
            int fewest = MAX_SLOTS;
            int most = 0;
            for (int m = 0; m < members; m++) {
                fewest = Math.min(fewest, nights[m]);
                most = Math.max(most, nights[m]);
            }
            if (most - fewest <= 1) {
                found = true;
                bestChanges = changes;
                bestWheels = wheels;
                copyInts(row, best);
            }
        }
    }

    /** The rows of the gauges, in the order in which they were told. */
    private static final class Gauges {
        int rows;
        private final int[] channels = new int[MAX_ROWS];
        private final int[] quarters = new int[MAX_ROWS];
        private final int[] ins = new int[MAX_ROWS];
        private final int[] outs = new int[MAX_ROWS];

        int addRow(int channel, int quarter, int in, int out) {
            if (rows < MAX_ROWS) {
                channels[rows] = channel;
                quarters[rows] = quarter;
                ins[rows] = in;
                outs[rows] = out;
                rows++;
            }
            return rows;
        }

        private int latestRow(int channel, int quarter) {
            for (int i = rows - 1; i >= 0; i--) {
                if (channels[i] == channel && quarters[i] == quarter) {
                    return i;
                }
            }
            return NONE;
        }

        private boolean counts(int i, int channel) {
            return channels[i] == channel && latestRow(channel, quarters[i]) == i;
        }

        private int leastThatCloses(Net net, int i, int t) {
            int c = channels[i];
            return net.hasChannel(c) ? ins[i] - ins[i] * net.high[c] / 1000 - t : 0;
        }

        private int mostThatCloses(Net net, int i, int t) {
            int c = channels[i];
            return net.hasChannel(c) ? ins[i] - ins[i] * net.low[c] / 1000 + t : 0;
        }

        private int lack(Net net, int i, int t) {
            return Math.max(0, leastThatCloses(net, i, t) - outs[i]);
        }

        private boolean lacksAt(Net net, int channel, int quarter, int t) {
            int i = latestRow(channel, quarter);
            return i != NONE && lack(net, i, t) > 0;
        }

        int rowsThatCount(int channel) {
            int sum = 0;
            for (int i = 0; i < rows; i++) {
                if (counts(i, channel)) {
                    sum++;
                }
            }
            return sum;
        }

        int rowsThatClose(Net net, int channel, int t) {
            int sum = 0;
            for (int i = 0; i < rows; i++) {
                if (counts(i, channel)) {
                    boolean enough = outs[i] >= leastThatCloses(net, i, t);
                    sum += enough && outs[i] <= mostThatCloses(net, i, t) ? 1 : 0;
                }
            }
            return sum;
        }

        int rowsStolen(Net net, int channel, int t) {
            int sum = 0;
            for (int i = 0; i < rows; i++) {
                if (counts(i, channel) && lack(net, i, t) > 0) {
                    sum++;
                }
            }
            return sum;
        }

        int litresLacking(Net net, int channel, int t) {
            int sum = 0;
            for (int i = 0; i < rows; i++) {
                if (counts(i, channel)) {
                    sum += lack(net, i, t);
                }
            }
            return sum;
        }

        /** Its first quarter, or how many it has; a run is measured from its first quarter alone. */
        int longestRun(Net net, int channel, int t, boolean first) {
            int longest = 0;
            int start = NONE;
            for (int i = 0; i < rows; i++) {
                int q = quarters[i];
                if (counts(i, channel) && lack(net, i, t) > 0 && !lacksAt(net, channel, q - 1, t)) {
                    int run = 1;
                    while (run < MAX_ROWS && lacksAt(net, channel, q + run, t)) {
                        run++;
                    }
                    if (run > longest || (run == longest && q < start)) {
                        longest = run;
                        start = q;
                    }
                }
            }
            return first ? start : longest;
        }

        void copyFrom(Gauges other) {
            rows = other.rows;
            copyInts(other.channels, channels);
            copyInts(other.quarters, quarters);
            copyInts(other.ins, ins);
            copyInts(other.outs, outs);
        }
    }
}
