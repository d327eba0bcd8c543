/** Promise 11, cart: each sentence that names a boundary, alone. */
public final class Promise11Test {
    private static final int MIN = Integer.MIN_VALUE;
    private static final int MAX = Integer.MAX_VALUE;

    public static void main(String[] args) {
        noSuchCounter();
        bothAreOne();
        nIs1ToTheFloat();
        aFloatOf1();
        aFloatOf0();
        aFloatBelow0();
        aFloatAboveAMillion();
        atOnce();
        owedBack();
        refusedChangesNothing();
        Check.end("Promise11Test");
    }

    private static void noSuchCounter() {
        Check.sentence(11, "false if there is no such COUNTER");
        Check.no("none at all", new WireMoney().cart(0, 1, 1));
        WireMoney x = Make.counters(10);
        int[][] wrong = {{-1, 0}, {0, -1}, {10, 0}, {0, 10}, {MIN, 0}, {0, MIN}, {MAX, 0}, {0, MAX}};
        for (int[] w : wrong) {
            Check.no(Refusal.name("cart", w), x.cart(w[0], w[1], 1));
        }
        Check.due("FLOAT of 0", x.at(0, 0), 1000);
        Check.yes("from the first to the last", x.cart(0, 9, 1));
        Check.yes("from the last to the first", x.cart(9, 0, 1));
    }

    private static void bothAreOne() {
        Check.sentence(11, "false if both are one");
        WireMoney x = Make.counters(2);
        Check.no("cart(0, 0, 1)", x.cart(0, 0, 1));
        Check.no("cart(1, 1, 1000)", x.cart(1, 1, 1000));
        Check.due("nothing is owed", x.at(1, 3), 0);
    }

    private static void nIs1ToTheFloat() {
        Check.sentence(11, "false if n isn't 1 .. the FLOAT");
        int[] wrong = {0, -1, 1001, MIN, MAX};
        for (int w : wrong) {
            WireMoney x = Make.counters(2);
            Check.no("cart(0, 1, " + w + ")", x.cart(0, 1, w));
            Check.due("FLOAT", x.at(0, 0), 1000);
            Check.due("the other FLOAT", x.at(1, 0), 1000);
        }
        int[] right = {1, 2, 999, 1000};
        for (int r : right) {
            WireMoney x = Make.counters(2);
            Check.yes("cart(0, 1, " + r + ")", x.cart(0, 1, r));
            Check.due("FLOAT", x.at(0, 0), 1000 - r);
            Check.due("the other FLOAT", x.at(1, 0), 1000 + r);
        }
    }

    private static void aFloatOf1() {
        Check.sentence(11, "n .. 1 .. the FLOAT (1)");
        WireMoney x = Make.pair(1, 1);
        Check.no("cart(0, 1, 2)", x.cart(0, 1, 2));
        Check.yes("cart(0, 1, 1)", x.cart(0, 1, 1));
        Check.no("cart(0, 1, 1) again", x.cart(0, 1, 1));
    }

    private static void aFloatOf0() {
        Check.sentence(11, "n .. 1 .. the FLOAT (0)");
        WireMoney x = Make.pair(0, 1);
        Check.no("cart(0, 1, 1)", x.cart(0, 1, 1));
        Check.no("cart(0, 1, 0)", x.cart(0, 1, 0));
    }

    private static void aFloatBelow0() {
        Check.sentence(11, "n .. 1 .. the FLOAT (below 0)");
        WireMoney x = Make.pair(0, 1);
        x.order(0, 1, 100, 7);
        x.stop(0);
        x.cart(0, 1, 101);
        x.go(10);
        Check.due("FLOAT", x.at(0, 0), -100);
        int[] wrong = {-101, -100, -99, -1, 0, 1, 100};
        for (int w : wrong) {
            Check.no("cart(0, 1, " + w + ")", x.cart(0, 1, w));
        }
        Check.yes("to it", x.cart(1, 0, 101));
        Check.due("FLOAT then", x.at(0, 0), 1);
        Check.yes("from it", x.cart(0, 1, 1));
    }

    private static void aFloatAboveAMillion() {
        Check.sentence(11, "n .. 1 .. the FLOAT (more than a COUNTER may come with)");
        WireMoney x = new WireMoney();
        for (int i = 0; i < 10; i++) {
            x.counter(1000000, 0, 1440);
        }
        for (int i = 1; i < 10; i++) {
            Check.yes("all of " + i, x.cart(i, 0, 1000000));
        }
        Check.due("FLOAT", x.at(0, 0), 10000000);
        Check.no("one too many", x.cart(0, 9, 10000001));
        Check.yes("all of them", x.cart(0, 9, 10000000));
        Check.due("FLOAT then", x.at(9, 0), 10000000);
    }

    private static void atOnce() {
        Check.sentence(11, "at once");
        WireMoney x = new WireMoney();
        x.counter(5, 0, 1);
        x.counter(5, 0, 1);
        x.go(1);
        Check.yes("at shut COUNTERS that no WIRE joins", x.cart(0, 1, 5));
        Check.due("coins there", x.at(1, 0), 10);
        Check.due("NOW", x.count(0), 1);
        Check.due("MESSAGES", x.count(4), 0);
    }

    private static void owedBack() {
        Check.sentence(11, "a CART takes coins from one FLOAT to another one, and is owed back");
        WireMoney x = Make.counters(3);
        x.cart(0, 1, 1);
        Check.due("owed to 0", x.at(0, 3), 1);
        Check.due("owed to 1", x.at(1, 3), -1);
        Check.due("owed to 2", x.at(2, 3), 0);
        x.cart(1, 0, 1);
        Check.due("back: owed to 0", x.at(0, 3), 0);
        Check.due("back: owed to 1", x.at(1, 3), 0);
    }

    private static void refusedChangesNothing() {
        Check.sentence(11, "What is refused changes nothing.");
        int[][] wrong = {{-1, 0, 5}, {3, 0, 5}, {0, 3, 5}, {0, -1, 5}, {0, 0, 5}, {2, 0, 0},
            {2, 0, -1}, {2, 0, 70}, {0, 2, MIN}, {0, 2, MAX}};
        for (int[] w : wrong) {
            Refusal.due(Refusal.name("cart", w), Make::busy, x -> Check.number(x.cart(w[0], w[1], w[2])), 0);
        }
    }
}
