/** Promises 11 and 17: cart, at. */
public final class CoinsTest {
    private static final int MIN = Integer.MIN_VALUE;
    private static final int MAX = Integer.MAX_VALUE;

    public static void main(String[] args) {
        carts();
        wrongCarts();
        owedIsTogetherNothing();
        lackOfSeveral();
        messagesInQueues();
        wrongQuestions();
        Check.end("CoinsTest");
    }

    private static void carts() {
        WireMoney x = new WireMoney();
        x.counter(1000000, 0, 1);
        x.counter(1000000, 0, 1);
        x.go(5);
        Check.yes("the whole float, at shut counters, with no wire", x.cart(0, 1, 1000000));
        Check.due("it is gone", x.at(0, 0), 0);
        Check.due("it is there at once", x.at(1, 0), 2000000);
        Check.due("it is owed back", x.at(0, 3), 1000000);
        Check.due("by the other one", x.at(1, 3), -1000000);
        Check.no("nothing is left", x.cart(0, 1, 1));
        Check.yes("one coin", x.cart(1, 0, 1));
        Check.due("one coin came", x.at(0, 0), 1);
        Check.due("and is owed", x.at(0, 3), 999999);
        Check.due("no MINUTE passes", x.count(0), 5);
        Check.due("no MESSAGE is written", x.count(4), 0);
    }

    private static void wrongCarts() {
        WireMoney x = new WireMoney();
        x.counter(10, 0, 1440);
        x.counter(20, 0, 1440);
        int[][] wrong = {{0, 1, 0}, {0, 1, -1}, {0, 1, 11}, {1, 0, 21}, {0, 0, 5}, {1, 1, 5},
            {0, 2, 5}, {2, 0, 5}, {-1, 0, 5}, {0, -1, 5}, {0, 1, MIN}, {0, 1, MAX}, {MIN, MAX, 5}};
        for (int[] w : wrong) {
            Check.no("cart" + java.util.Arrays.toString(w), x.cart(w[0], w[1], w[2]));
        }
        Check.due("float 0 as it was", x.at(0, 0), 10);
        Check.due("float 1 as it was", x.at(1, 0), 20);
        Check.due("nothing is owed", x.at(0, 3), 0);
        Check.due("nothing at all", x.at(1, 3), 0);
    }

    private static void owedIsTogetherNothing() {
        WireMoney x = new WireMoney();
        for (int i = 0; i < 3; i++) {
            x.counter(1000, 0, 1440);
        }
        x.wire(0, 1, 1);
        x.wire(1, 2, 1);
        x.order(0, 1, 100, 1);
        x.order(0, 2, 200, 2);
        x.order(2, 1, 40, 3);
        x.order(1, 0, 7, 4);
        x.go(10);
        for (int order = 0; order < 4; order++) {
            Check.due("pay order " + order, x.pay(order, order + 1), 0);
        }
        x.cart(1, 2, 50);
        Check.due("owed to 0", x.at(0, 3), -100 - 200 + 7);
        Check.due("owed to 1", x.at(1, 3), 100 + 40 - 7 + 50);
        Check.due("owed to 2", x.at(2, 3), 200 - 40 - 50);
        Check.due("float of 0", x.at(0, 0), 1000 + 101 + 202 - 7);
        Check.due("float of 1", x.at(1, 0), 1000 + 8 - 100 - 40 - 50);
        Check.due("float of 2", x.at(2, 0), 1000 + 41 - 200 + 50);
        Check.due("fees of 0", x.at(0, 4), 3);
        Check.due("fees of 1", x.at(1, 4), 1);
        Check.due("fees of 2", x.at(2, 4), 1);
    }

    private static void lackOfSeveral() {
        WireMoney x = new WireMoney();
        x.counter(0, 0, 1440);
        x.counter(100, 0, 1440);
        x.wire(0, 1, 1);
        x.order(0, 1, 60, 1);
        x.order(0, 1, 40, 2);
        x.order(0, 1, 5, 3);
        x.go(2);
        Check.due("60 are within the float", x.at(1, 2), 0);
        x.go(1);
        Check.due("100 are the float", x.at(1, 2), 0);
        x.go(1);
        Check.due("105 are 5 more", x.at(1, 2), 5);
        x.pay(0, 1);
        Check.due("what is PAID lowers both", x.at(1, 2), 5);
        x.stop(2);
        Check.due("a STOP that is not READ changes nothing", x.at(1, 2), 5);
        x.go(2);
        Check.due("what is STOPPED isn't awaited", x.at(1, 2), 0);
        Check.due("where they came from nothing lacks", x.at(0, 2), 0);
    }

    private static void messagesInQueues() {
        WireMoney x = new WireMoney();
        for (int i = 0; i < 3; i++) {
            x.counter(0, 0, 1440);
        }
        x.wire(0, 1, 1);
        x.wire(2, 1, 1);
        x.down(1, 0, 50);
        for (int i = 0; i < 3; i++) {
            x.order(0, 2, 5, 5);
            x.order(1, 0, 5, 5);
        }
        x.order(1, 2, 5, 5);
        x.stop(0);
        Check.due("queued at 0", x.at(0, 5), 4);
        Check.due("queued at 1, of both wires", x.at(1, 5), 4);
        Check.due("queued at 2", x.at(2, 5), 0);
        x.go(2);
        Check.due("two left 0", x.at(0, 5), 2);
        Check.due("two left 1 and one came", x.at(1, 5), 3);
        x.go(20);
        Check.due("none at 0", x.at(0, 5), 0);
        Check.due("all wait at 1", x.at(1, 5), 5);
        x.go(50);
        Check.due("none waits at 1", x.at(1, 5), 0);
        Check.due("those READ are in no queue", x.at(2, 5), 0);
        int[] order = {6, 0, 2, 4};
        for (int i = 1; i < order.length; i++) {
            Check.due("first come, first gone: " + order[i],
                    x.message(order[i], 5), x.message(order[i - 1], 5) + 1);
        }
    }

    private static void wrongQuestions() {
        WireMoney x = new WireMoney();
        x.counter(10, 0, 1440);
        int[][] wrong = {{0, -1}, {0, 6}, {0, MIN}, {0, MAX}, {1, 0}, {-1, 0}, {10, 0}, {MIN, 0}, {MAX, 5}};
        for (int[] w : wrong) {
            Check.due("at" + java.util.Arrays.toString(w), x.at(w[0], w[1]), MIN);
        }
        int[] due = {10, 1, 0, 0, 0, 0};
        for (int what = 0; what < due.length; what++) {
            Check.due("at(0, " + what + ")", x.at(0, what), due[what]);
        }
    }
}
