/** Objects of which much is told, made by at most 210 of their 512 calls. */
final class Worlds {
    interface World {
        CliffWater make();
    }

    static final World NEW = CliffWater::new;
    static final World TOLD = Worlds::told;
    static final World TEN_NODES = Worlds::tenNodes;
    static final World ALL_CHANNELS = Worlds::allChannels;
    static final World ALL_DEEDS = () -> deeds(120);
    static final World ALL_ROWS = () -> rows(150);
    static final World TAPE_0 = () -> tape(0);
    static final World TAPE_480 = () -> tape(480);
    static final World TAPE_481 = () -> tape(481);
    static final World TAPE_500 = () -> tape(500);
    static final World LATE_9504 = () -> late(9504);
    static final World LATE_9599 = () -> late(9599);

    private Worlds() {
    }

    static CliffWater told() {
        CliffWater x = new CliffWater();
        tell(x);
        return x;
    }

    /**
     * 8 nodes (springs 0 and 1, joint 2, tank 3, wheel 4, fields 5 .. 7), 8 channels (the last one
     * broken), 5 deeds (number 1 void), 9 rows, 4 lines, a fault, a tape of 14 bytes, image 1.
     */
    static void tell(CliffWater x) {
        net(x);
        x.field(0, 5);
        x.field(3, 6);
        x.field(7, 7);
        x.deed(0, 40, 0, 0);
        x.deed(10, 12, 3, 0);
        x.deed(0, 167, 7, 1);
        x.dry(3, true);
        x.go(96);
        x.gauge(0, 0, 100, 70);
        x.image(1);
        x.annul(1);
        x.deed(25, 60, 5, 0);
        x.deed(5, 9, 4, 99);
        x.dry(0, true);
        x.dry(99, true);
        x.broken(7, true);
        rows(x);
        x.go(57);
        Texts.statute(x, "if dry:cut 7;if hours>20 and not owed>3:weight 5;weight 2;if far=999:free;");
        Texts.statute(x, "weight 1;cut 101;");
        Texts.tape(x, "weight 7;cut 1");
    }

    private static void net(CliffWater x) {
        x.node(0, 100);
        x.node(0, 30);
        x.node(1, 0);
        x.node(2, 500);
        x.node(3, 70);
        x.node(4, 1000);
        x.node(4, 2000);
        x.node(4, 3000);
        x.channel(0, 2, 100, 250, 2, 90);
        x.channel(1, 2, 0, 40, 0, 25);
        x.channel(2, 3, 15, 60, 8, 80);
        x.channel(3, 4, 0, 0, 1, 40);
        x.channel(4, 5, 10, 20, 3, 35);
        x.channel(4, 6, 0, 500, 0, 99);
        x.channel(3, 7, 5, 5, 4, 20);
        x.channel(2, 7, 0, 0, 1, 9);
        x.open(0, 0);
        x.open(1, 1);
        x.open(2, 2);
        x.open(3, 3);
        x.open(4, 4);
    }

    private static void rows(CliffWater x) {
        x.gauge(0, 1, 100, 74);
        x.gauge(0, 2, 100, 90);
        x.gauge(0, 4, 100, 91);
        x.gauge(0, 5, 100, 10);
        x.gauge(0, 5, 100, 60);
        x.gauge(3, 96, 40, 40);
        x.gauge(3, 95, 40, 39);
        x.gauge(5, 60, 99, 0);
    }

    static CliffWater tenNodes() {
        CliffWater x = told();
        x.node(1, 0);
        x.node(4, 9);
        return x;
    }

    static CliffWater allChannels() {
        CliffWater x = told();
        for (int i = 0; i < 6; i++) {
            x.channel(i / 2, 3 + i / 2, 0, 0, i, 9);
        }
        return x;
    }

    static CliffWater deeds(int all) {
        CliffWater x = told();
        for (int d = x.count(2); d < all; d++) {
            x.deed(d, d + 20, d % 8, d % 4);
        }
        return x;
    }

    static CliffWater rows(int all) {
        CliffWater x = told();
        for (int i = x.count(8); i < all; i++) {
            x.gauge(i % 8, i, 100, i % 99);
        }
        return x;
    }

    static CliffWater tape(int bytes) {
        CliffWater x = told();
        x.end(0);
        for (int have = 0; have < bytes; have += 20) {
            Texts.feed(x, "weight 1; cut 20;   ", 0);
        }
        x.end(bytes);
        return x;
    }

    static CliffWater late(int quarter) {
        CliffWater x = told();
        int q = x.count(3);
        while (q != CliffWater.NONE && q < quarter) {
            q = x.go(Math.min(96, quarter - q));
        }
        return x;
    }
}
