import java.util.Random;

/** Mixed runs of 512 calls, each answer held against PlainModel; seeds are fixed. */
public final class ModelTest {
    private static final int RUNS = 1500;
    private static final int[] ODD = {Integer.MIN_VALUE, -1, Integer.MAX_VALUE, 1000001, 100000, 20001};

    private final Random random;
    private final int seed;
    private final WireMoney money = new WireMoney();
    private final PlainModel model = new PlainModel();
    private int call = 0;

    private ModelTest(int seed) {
        this.seed = seed;
        this.random = new Random(seed);
    }

    public static void main(String[] args) {
        for (int seed = 0; seed < RUNS; seed++) {
            new ModelTest(seed).run();
        }
        Check.end("ModelTest");
    }

    private void run() {
        int style = seed % 4;
        int counters = 2 + random.nextInt(style == 3 ? 2 : 10);
        int wires = 1 + random.nextInt(16);
        boolean early = random.nextBoolean();
        for (int i = 0; i < counters; i++) {
            counter(random.nextInt(3) == 0);
        }
        for (int i = 0; i < wires; i++) {
            wire(1 + random.nextInt(style == 1 ? 60 : 4));
        }
        while (call < 500) {
            step(style, early);
        }
        lookAtAll();
    }

    private void step(int style, boolean early) {
        switch (random.nextInt(20)) {
            case 0:
                counterOrWireOrBand(early);
                break;
            case 1:
                down();
                break;
            case 2: case 3: case 4: case 5:
                order();
                break;
            case 6: case 7:
                stop();
                break;
            case 8: case 9: case 10:
                pay();
                break;
            case 11:
                cart();
                break;
            case 12: case 13: case 14:
                garble();
                break;
            case 15: case 16: case 17:
                go(style);
                break;
            default:
                look();
                break;
        }
    }

    private void due(String name, long got, long want, int... args) {
        call++;
        Check.due("seed " + seed + " call " + call + ": " + name + java.util.Arrays.toString(args), got, want);
    }

    private static int n(boolean b) {
        return b ? 1 : 0;
    }

    /** A number below the bound, now and then one that can't be. */
    private int below(int bound) {
        int odds = random.nextInt(60);
        if (odds == 0) {
            return ODD[random.nextInt(ODD.length)];
        }
        return odds == 1 ? bound : random.nextInt(Math.max(bound, 1));
    }

    private int late(int size) {
        return random.nextBoolean() ? below(size) : size - 1 - random.nextInt(4);
    }

    private void counter(boolean hours) {
        int coins = random.nextInt(4) == 0 ? below(1000001) : below(300);
        int opens = hours ? below(1441) : 0;
        int shuts = hours ? below(1441) : 1440;
        due("counter", money.counter(coins, opens, shuts), model.counter(coins, opens, shuts), coins, opens, shuts);
    }

    private void wire(int minutes) {
        int a = below(model.counters.size());
        int b = below(model.counters.size());
        int m = random.nextInt(30) == 0 ? below(62) : minutes;
        due("wire", money.wire(a, b, m), model.wire(a, b, m), a, b, m);
    }

    private void counterOrWireOrBand(boolean early) {
        int which = random.nextInt(early ? 3 : 4);
        if (which == 0) {
            counter(random.nextBoolean());
        } else if (which == 1) {
            wire(1 + random.nextInt(5));
        } else {
            int last = model.bands.isEmpty() ? 0 : model.bands.get(model.bands.size() - 1)[0];
            int bound = random.nextBoolean() ? last + random.nextInt(60) : below(100000);
            int fee = below(1001);
            due("band", n(money.band(bound, fee)), n(model.band(bound, fee)), bound, fee);
        }
    }

    private void down() {
        int w = below(model.wires.size());
        int from = random.nextInt(20) == 0 ? below(20001) : model.now + random.nextInt(8) - 1;
        int to = random.nextInt(20) == 0 ? below(20001) : from + random.nextInt(12);
        due("down", n(money.down(w, from, to)), n(model.down(w, from, to)), w, from, to);
    }

    private void order() {
        int from = below(model.counters.size());
        int to = below(model.counters.size());
        int sum = random.nextInt(4) == 0 ? below(100000) : below(150);
        int word = random.nextInt(4) == 0 ? below(10000) : random.nextInt(4);
        due("order", money.order(from, to, sum, word), model.order(from, to, sum, word), from, to, sum, word);
    }

    private void stop() {
        int o = late(model.orders.size());
        due("stop", money.stop(o), model.stop(o), o);
    }

    private void pay() {
        int o = late(model.orders.size());
        boolean known = o >= 0 && o < model.orders.size();
        int word = known && random.nextInt(5) != 0 ? model.orders.get(o).word : below(10000);
        due("pay", money.pay(o, word), model.pay(o, word), o, word);
    }

    private void cart() {
        int from = below(model.counters.size());
        int to = below(model.counters.size());
        boolean known = from >= 0 && from < model.counters.size();
        int n = known ? below(Math.max(1, model.counters.get(from).coins) + 1) : 1;
        due("cart", n(money.cart(from, to, n)), n(model.cart(from, to, n)), from, to, n);
    }

    private void garble() {
        int m = late(model.messages.size());
        int place = below(13);
        int digit = below(10);
        due("garble", n(money.garble(m, place, digit)), n(model.garble(m, place, digit)), m, place, digit);
    }

    private void go(int style) {
        int n = below(style == 2 ? 3 : style == 1 ? 120 : 10);
        if (random.nextInt(60) == 0) {
            n = below(2001);
        }
        due("go", money.go(n), model.go(n), n);
    }

    private void look() {
        int a = below(model.counters.size());
        int b = below(model.counters.size());
        int o = late(model.orders.size());
        int m = late(model.messages.size());
        switch (random.nextInt(7)) {
            case 0:
                due("least", money.least(a, b), model.least(a, b), a, b);
                break;
            case 1:
                int sum = below(100000);
                due("fee", money.fee(sum), model.fee(sum), sum);
                break;
            case 2:
                int i = below(14);
                due("sign", money.sign(m, i), model.sign(m, i), m, i);
                break;
            case 3:
                int ofMessage = below(7);
                due("message", money.message(m, ofMessage), model.message(m, ofMessage), m, ofMessage);
                break;
            case 4:
                int ofOrder = below(10);
                due("told", money.told(o, ofOrder), model.told(o, ofOrder), o, ofOrder);
                break;
            case 5:
                int ofCounter = below(6);
                due("at", money.at(a, ofCounter), model.at(a, ofCounter), a, ofCounter);
                break;
            default:
                int what = below(8);
                due("count", money.count(what), model.count(what), what);
                break;
        }
    }

    /** Beyond the 512th call nothing is promised; the looks change nothing, so they may be more. */
    private void lookAtAll() {
        int owed = 0;
        for (int c = 0; c < model.counters.size(); c++) {
            for (int what = -1; what <= 6; what++) {
                due("at", money.at(c, what), model.at(c, what), c, what);
            }
            owed += money.at(c, 3);
            for (int b = 0; b < model.counters.size(); b++) {
                due("least", money.least(c, b), model.least(c, b), c, b);
            }
        }
        due("all that is owed", owed, 0);
        for (int o = 0; o < model.orders.size(); o++) {
            for (int what = -1; what <= 10; what++) {
                due("told", money.told(o, what), model.told(o, what), o, what);
            }
        }
        for (int m = 0; m < model.messages.size(); m++) {
            for (int what = -1; what <= 7; what++) {
                due("message", money.message(m, what), model.message(m, what), m, what);
            }
            for (int i = -1; i <= 14; i++) {
                due("sign", money.sign(m, i), model.sign(m, i), m, i);
            }
        }
        for (int what = -1; what <= 8; what++) {
            due("count", money.count(what), model.count(what), what);
        }
    }
}
