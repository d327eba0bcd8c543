/** Promise 18: count; and what the limit of 512 calls means for a run. */
public final class CountTest {
    public static void main(String[] args) {
        counts();
        wrongCounts();
        looksChangeNothing();
        Check.end("CountTest");
    }

    private static WireMoney busy() {
        WireMoney x = new WireMoney();
        for (int i = 0; i < 4; i++) {
            x.counter(1000, 0, 1440);
        }
        x.wire(0, 1, 1);
        x.wire(1, 2, 2);
        x.wire(2, 3, 3);
        x.order(0, 1, 10, 1);
        x.order(0, 2, 20, 2);
        x.order(0, 3, 30, 3);
        x.order(3, 0, 40, 4);
        x.order(2, 1, 50, 5);
        x.garble(1, 0, 7);
        x.garble(2, 0, 7);
        x.go(60);
        x.pay(0, 1);
        x.pay(1, 2);
        x.pay(4, 5);
        x.stop(0);
        x.stop(3);
        x.go(17);
        return x;
    }

    private static void counts() {
        WireMoney x = busy();
        // Five PAYMENTS, two REPEATS, two PAYMENTS anew, two STOPS, one STOPPED.
        int[] due = {77, 4, 3, 5, 12, 2, 3, 1};
        for (int what = 0; what < due.length; what++) {
            Check.due("count(" + what + ")", x.count(what), due[what]);
        }
    }

    private static void wrongCounts() {
        WireMoney x = busy();
        int[] wrong = {-1, 8, 100, Integer.MIN_VALUE, Integer.MAX_VALUE};
        for (int w : wrong) {
            Check.due("count(" + w + ")", x.count(w), -1);
        }
    }

    private static void looksChangeNothing() {
        WireMoney x = busy();
        WireMoney y = busy();
        for (int i = -2; i < 16; i++) {
            for (int what = -2; what < 16; what++) {
                x.least(i, what);
                x.fee(i);
                x.sign(i, what);
                x.message(i, what);
                x.told(i, what);
                x.at(i, what);
                x.count(what);
            }
        }
        x.go(5);
        y.go(5);
        for (int what = 0; what < 8; what++) {
            Check.due("count(" + what + ") after looks", x.count(what), y.count(what));
        }
        for (int counter = 0; counter < 4; counter++) {
            for (int what = 0; what < 6; what++) {
                Check.due("at(" + counter + ", " + what + ") after looks", x.at(counter, what), y.at(counter, what));
            }
        }
    }
}
