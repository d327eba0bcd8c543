/** Promises 8, 9, 10 and 16: order, stop, pay, told. */
public final class OrderTest {
    private static final int MIN = Integer.MIN_VALUE;
    private static final int MAX = Integer.MAX_VALUE;

    public static void main(String[] args) {
        anOrder();
        wrongOrders();
        openingHours();
        twoHundredOrders();
        thousandMessages();
        payments();
        wordsAndFloats();
        payAnswersTheFirstThatHolds();
        stopsThatCome();
        stopsThatComeTooLate();
        stopThatOvertakesTheRepeat();
        stopBeforeTheRepeatIsRead();
        paidBackBelowNothing();
        wrongStops();
        toldOfOrders();
        Check.end("OrderTest");
    }

    private static WireMoney pair(int coins, int minutes) {
        WireMoney x = new WireMoney();
        x.counter(coins, 0, 1440);
        x.counter(coins, 0, 1440);
        x.wire(0, 1, minutes);
        return x;
    }

    private static void anOrder() {
        WireMoney x = pair(10, 2);
        Check.due("order", x.order(0, 1, 300, 42), 0);
        Check.due("the float is more by sum and fee", x.at(0, 0), 313);
        Check.due("the fee is taken", x.at(0, 4), 3);
        Check.due("the other float is not", x.at(1, 0), 10);
        Check.due("nothing is owed yet", x.at(0, 3), 0);
        Check.due("a message is written", x.count(4), 1);
        Check.due("it is a PAYMENT", x.message(0, 0), 0);
        Check.due("it is queued at once", x.at(0, 5), 1);
        Check.due("not KNOWN yet", x.told(0, 4), 0);
        Check.due("order back", x.order(1, 0, 1, 0), 1);
        Check.due("the least fee", x.at(1, 0), 12);
        Check.due("largest sum and word", x.order(0, 1, 99999, 9999), 2);
        x.go(2);
        Check.due("not KNOWN before it is READ", x.told(0, 4), 0);
        Check.due("no LACK before", x.at(1, 2), 0);
        x.go(1);
        Check.due("KNOWN as it is READ", x.told(0, 4), 1);
        Check.due("LACK then", x.at(1, 2), 288);
        Check.due("one a minute: the third is under way", x.told(2, 4), 0);
        x.go(1);
        Check.due("and KNOWN a minute later", x.told(2, 4), 1);
    }

    private static void wrongOrders() {
        WireMoney x = new WireMoney();
        for (int i = 0; i < 3; i++) {
            x.counter(10, 0, 1440);
        }
        x.wire(0, 1, 1);
        int[][] wrong = {{0, 0, 5, 5}, {0, 2, 5, 5}, {2, 0, 5, 5}, {0, 3, 5, 5}, {3, 0, 5, 5},
            {-1, 0, 5, 5}, {0, -1, 5, 5}, {MIN, MAX, 5, 5}, {0, 1, 0, 5}, {0, 1, -1, 5},
            {0, 1, 100000, 5}, {0, 1, MAX, 5}, {0, 1, MIN, 5}, {0, 1, 5, -1}, {0, 1, 5, 10000},
            {0, 1, 5, MIN}, {0, 1, 5, MAX}};
        for (int[] w : wrong) {
            Check.due("order" + java.util.Arrays.toString(w), x.order(w[0], w[1], w[2], w[3]), -1);
        }
        Check.due("no ORDER came", x.count(3), 0);
        Check.due("no MESSAGE came", x.count(4), 0);
        Check.due("no coins came", x.at(0, 0), 10);
        Check.due("no fee came", x.at(0, 4), 0);
        Check.due("the first number is 0 yet", x.order(1, 0, 5, 0), 0);
    }

    private static void openingHours() {
        WireMoney x = new WireMoney();
        x.counter(10, 2, 4);
        x.counter(10, 0, 1);
        x.wire(0, 1, 1);
        x.go(1);
        Check.due("shut before", x.order(0, 1, 5, 5), -1);
        x.go(1);
        Check.due("open from its TIME, the other one shut", x.order(0, 1, 5, 5), 0);
        x.go(1);
        Check.due("open to the last minute", x.order(0, 1, 5, 5), 1);
        x.go(1);
        Check.due("shut at its end", x.order(0, 1, 5, 5), -1);
        x.go(1438);
        Check.due("open on the next day", x.order(0, 1, 5, 5), 2);
    }

    private static void twoHundredOrders() {
        WireMoney x = pair(0, 1);
        for (int i = 0; i < 200; i++) {
            Check.due("order " + i, x.order(0, 1, 99999, 9999), i);
        }
        Check.due("the one behind", x.order(0, 1, 1, 1), -1);
        Check.due("200 of them", x.count(3), 200);
        Check.due("200 messages", x.count(4), 200);
        Check.due("all coins are there", x.at(0, 0), 200 * (99999 + 999));
        Check.due("number 199 in four signs", x.sign(199, 1) * 100 + x.sign(199, 2) * 10 + x.sign(199, 3), 199);
        x.go(300);
        Check.due("LACK of all", x.at(1, 2), 200 * 99999);
    }

    /** 512 calls can't write 1000 MESSAGES; that the bound holds is looked at all the same. */
    private static void thousandMessages() {
        WireMoney x = pair(0, 1);
        x.order(0, 1, 70, 1);
        x.order(0, 1, 80, 2);
        for (int i = 0; x.count(4) < 999; i++) {
            int last = x.count(4) - 1;
            for (int m = last; m >= 0 && m > last - 4; m--) {
                int sign = x.sign(m, 0);
                x.garble(m, 0, 9 - sign);
            }
            x.go(1);
            if (i > 5000) {
                break;
            }
        }
        Check.due("999 at least", x.count(4) >= 999 ? 1 : 0, 1);
        x.go(10);
        Check.due("1000 at most", x.count(4), 1000);
        Check.due("no order then", x.order(0, 1, 5, 5), -1);
        Check.due("no stop then", x.stop(0), -1);
        Check.due("nothing else was changed", x.count(3), 2);
        Check.due("no such message", x.message(1000, 0), -1);
        Check.due("the last one is there", x.message(999, 1) >= 0 ? 1 : 0, 1);
    }

    private static void payments() {
        WireMoney x = pair(500, 2);
        x.order(0, 1, 500, 1234);
        Check.due("not KNOWN in the queue", x.pay(0, 1234), 1);
        x.go(1);
        Check.due("not KNOWN on the wire", x.pay(0, 1234), 1);
        x.go(2);
        Check.due("paid with the whole float", x.pay(0, 1234), 0);
        Check.due("the float is less", x.at(1, 0), 0);
        Check.due("the other float isn't", x.at(0, 0), 1005);
        Check.due("PAID", x.told(0, 5), 1);
        Check.due("its MINUTE", x.told(0, 8), 3);
        Check.due("owed to it", x.at(1, 3), 500);
        Check.due("owed by the first", x.at(0, 3), -500);
        Check.due("one PAID", x.count(6), 1);
        Check.due("not twice", x.pay(0, 1234), 2);
        Check.due("nor by another word", x.pay(0, 1), 2);
        Check.due("one PAID yet", x.count(6), 1);
        Check.due("float as before", x.at(1, 0), 0);
        int[] wrong = {-1, 1, 200, MIN, MAX};
        for (int w : wrong) {
            Check.due("pay(" + w + ", 1234)", x.pay(w, 1234), 1);
        }
    }

    private static void wordsAndFloats() {
        WireMoney x = pair(9, 1);
        x.order(0, 1, 10, 7);
        x.go(2);
        int[] words = {6, 8, -1, 10000, 10007, MIN, MAX};
        for (int w : words) {
            Check.due("pay(0, " + w + ")", x.pay(0, w), 5);
        }
        Check.due("float too small by one", x.pay(0, 7), 6);
        Check.due("not PAID by that", x.told(0, 5), 0);
        Check.due("nor at a MINUTE", x.told(0, 8), -1);
        Check.due("float as it was", x.at(1, 0), 9);
        x.cart(0, 1, 1);
        Check.due("float just enough", x.pay(0, 7), 0);
    }

    /** One order at a counter open in minutes 5 to 9 of a day. */
    private static void payAnswersTheFirstThatHolds() {
        WireMoney x = new WireMoney();
        x.counter(0, 0, 1440);
        x.counter(0, 5, 10);
        x.wire(0, 1, 1);
        x.order(0, 1, 50, 7);
        x.go(2);
        Check.due("shut before another word", x.pay(0, 8), 4);
        Check.due("shut before a small float", x.pay(0, 7), 4);
        x.go(3);
        Check.due("another word before a small float", x.pay(0, 8), 5);
        Check.due("a small float", x.pay(0, 7), 6);
        x.go(5);
        Check.due("shut at its end", x.pay(0, 7), 4);
        x.cart(0, 1, 50);
        x.go(1435);
        Check.due("open on the next day", x.pay(0, 7), 0);
        x.go(10);
        Check.due("PAID before shut", x.pay(0, 8), 2);
        x.order(0, 1, 50, 7);
        x.go(3);
        x.stop(1);
        x.go(3);
        Check.due("STOPPED before shut", x.pay(1, 8), 3);
    }

    private static void stopsThatCome() {
        WireMoney x = pair(1000, 3);
        x.order(0, 1, 100, 7);
        Check.due("stop", x.stop(0), 1);
        int[] stop = {1, 0, 0, 1, 0, -1, 0};
        for (int what = 0; what < stop.length; what++) {
            Check.due("the STOP's " + what, x.message(1, what), stop[what]);
        }
        x.go(4);
        Check.due("KNOWN in minute 3", x.told(0, 4), 1);
        Check.due("not STOPPED yet", x.told(0, 6), 0);
        Check.due("no STOPPED message yet", x.count(4), 2);
        x.go(1);
        Check.due("STOPPED in minute 4", x.told(0, 6), 1);
        Check.due("KNOWN all the same", x.told(0, 4), 1);
        Check.due("no LACK by it", x.at(1, 2), 0);
        int[] stopped = {2, 0, 1, 0, -1, -1, 0};
        for (int what = 0; what < stopped.length; what++) {
            Check.due("the STOPPED's " + what, x.message(2, what), stopped[what]);
        }
        Check.due("it can't be paid", x.pay(0, 7), 3);
        Check.due("not paid back yet", x.told(0, 7), 0);
        Check.due("the float as it was", x.at(0, 0), 1101);
        x.go(3);
        Check.due("paid back in minute 7", x.told(0, 7), 1);
        Check.due("the sum without the fee", x.at(0, 0), 1001);
        Check.due("the fee stays taken", x.at(0, 4), 1);
        Check.due("nothing is owed", x.at(0, 3), 0);
        Check.due("READ at 7", x.message(2, 5), 7);
        Check.due("no STOP was late", x.count(7), 0);
        Check.due("one stop only", x.stop(0), -1);
    }

    private static void stopsThatComeTooLate() {
        WireMoney x = pair(1000, 3);
        x.order(0, 1, 100, 7);
        x.stop(0);
        x.go(4);
        Check.due("the payee is first", x.pay(0, 7), 0);
        x.go(10);
        Check.due("the STOP was late", x.count(7), 1);
        Check.due("not STOPPED", x.told(0, 6), 0);
        Check.due("not paid back", x.told(0, 7), 0);
        Check.due("nothing written back", x.count(4), 2);
        Check.due("float", x.at(0, 0), 1101);
        x.order(0, 1, 100, 7);
        x.go(5);
        x.pay(1, 7);
        Check.due("a PAID one can have a stop", x.stop(1), 3);
        x.go(5);
        Check.due("two were late", x.count(7), 2);
    }

    /** A STOP that comes while the PAYMENT is written anew: this one isn't KNOWN any more. */
    private static void stopThatOvertakesTheRepeat() {
        WireMoney x = pair(1000, 2);
        x.order(0, 1, 100, 7);
        x.garble(0, 5, 5);
        x.go(4);
        x.stop(0);
        x.go(1);
        Check.due("REPEAT READ at 4", x.message(1, 5), 4);
        Check.due("written anew", x.told(0, 9), 2);
        x.go(10);
        Check.due("the STOP was ahead of it", x.message(2, 5) < x.message(3, 5) ? 1 : 0, 1);
        Check.due("the new PAYMENT fits", x.message(3, 6), 0);
        Check.due("STOPPED", x.told(0, 6), 1);
        Check.due("never KNOWN", x.told(0, 4), 0);
        Check.due("so it isn't KNOWN to the payee", x.pay(0, 7), 1);
        Check.due("paid back", x.told(0, 7), 1);
    }

    /** The STOP is READ, then the REPEAT: no new PAYMENT. */
    private static void stopBeforeTheRepeatIsRead() {
        WireMoney x = pair(1000, 5);
        x.order(0, 1, 100, 7);
        x.garble(0, 5, 5);
        x.stop(0);
        x.go(30);
        Check.due("a REPEAT came", x.message(2, 0), 3);
        Check.due("and was READ after the STOP", x.message(2, 5) > x.message(1, 5) ? 1 : 0, 1);
        Check.due("no new PAYMENT", x.told(0, 9), 1);
        Check.due("PAYMENT, STOP, REPEAT, STOPPED", x.count(4), 4);
        Check.due("never KNOWN", x.told(0, 4), 0);
        Check.due("paid back", x.told(0, 7), 1);
    }

    private static void paidBackBelowNothing() {
        WireMoney x = pair(0, 1);
        x.order(0, 1, 100, 7);
        x.stop(0);
        Check.yes("all coins go", x.cart(0, 1, 101));
        x.go(10);
        Check.due("the float is below 0", x.at(0, 0), -100);
        Check.due("LACK of it", x.at(0, 2), 100);
        Check.no("no cart from there", x.cart(0, 1, 1));
        x.order(1, 0, 30, 1);
        x.go(3);
        Check.due("LACK of both", x.at(0, 2), 130);
        Check.due("nothing to pay with", x.pay(1, 1), 6);
        Check.yes("a cart helps", x.cart(1, 0, 130));
        Check.due("no LACK now", x.at(0, 2), 0);
        Check.due("paid", x.pay(1, 1), 0);
        Check.due("float", x.at(0, 0), 0);
    }

    private static void wrongStops() {
        WireMoney x = pair(0, 1);
        x.order(0, 1, 5, 5);
        int[] wrong = {-1, 1, 199, 200, MIN, MAX};
        for (int w : wrong) {
            Check.due("stop(" + w + ")", x.stop(w), -1);
        }
        Check.due("nothing is written", x.count(4), 1);
        WireMoney y = new WireMoney();
        y.counter(0, 0, 1);
        y.counter(0, 0, 1);
        y.wire(0, 1, 1);
        y.order(0, 1, 5, 5);
        y.go(5);
        Check.due("a stop at a shut counter", y.stop(0), 1);
        y.go(5);
        Check.due("is READ at one too", y.told(0, 6), 1);
        Check.due("and paid back", y.told(0, 7), 1);
    }

    private static void toldOfOrders() {
        WireMoney x = pair(1000, 1);
        x.order(0, 1, 250, 7);
        x.order(1, 0, 33, 8);
        int[][] due = {{0, 1, 250, 2, 0, 0, 0, 0, -1, 1}, {1, 0, 33, 1, 0, 0, 0, 0, -1, 1}};
        for (int order = 0; order < 2; order++) {
            for (int what = 0; what < 10; what++) {
                Check.due("told(" + order + ", " + what + ")", x.told(order, what), due[order][what]);
            }
        }
        x.garble(0, 0, 1);
        x.go(5);
        x.pay(0, 7);
        x.stop(1);
        x.go(5);
        int[][] then = {{0, 1, 250, 2, 1, 1, 0, 0, 5, 2}, {1, 0, 33, 1, 1, 0, 1, 1, -1, 1}};
        for (int order = 0; order < 2; order++) {
            for (int what = 0; what < 10; what++) {
                Check.due("then told(" + order + ", " + what + ")", x.told(order, what), then[order][what]);
            }
        }
        int[][] wrong = {{0, -1}, {0, 10}, {0, MIN}, {0, MAX}, {2, 0}, {-1, 0}, {MIN, 0}, {MAX, 0}};
        for (int[] w : wrong) {
            Check.due("told" + java.util.Arrays.toString(w), x.told(w[0], w[1]), -1);
        }
    }
}
