/** Promise 10, pay: each sentence that names a boundary, alone. */
public final class Promise10Test {
    private static final int MIN = Integer.MIN_VALUE;
    private static final int MAX = Integer.MAX_VALUE;

    public static void main(String[] args) {
        paidOut();
        noneSuch();
        notKnownThere();
        knownFromTheMinuteOfReading();
        garbledIsNotKnown();
        stoppedBeforeItWasKnown();
        paidAlready();
        stopped();
        notOpen();
        anotherWord();
        floatIsTooSmall();
        floatBelow0();
        thePayerMayBeShut();
        paidIsToldBeforeTheRest();
        stoppedIsToldBeforeTheRest();
        notOpenIsToldBeforeTheRest();
        anotherWordIsToldBeforeTheRest();
        inTheLastMinute();
        refusedChangesNothing();
        refusedAtAShutCounterChangesNothing();
        Check.end("Promise10Test");
    }

    /** An ORDER of 50 with the WORD 7 is KNOWN at a COUNTER with these coins, NOW being 2. */
    private static WireMoney known(int coins) {
        WireMoney x = Make.pair(coins, 1);
        x.order(0, 1, 50, 7);
        x.go(2);
        return x;
    }

    private static void paidOut() {
        Check.sentence(10, "0 it is (the FLOAT isn't below the SUM: the FLOAT is less by it)");
        int[] coins = {50, 51, 1000000};
        for (int c : coins) {
            WireMoney x = known(c);
            Check.due("FLOAT " + c, x.pay(0, 7), 0);
            Check.due("FLOAT then", x.at(1, 0), c - 50);
            Check.due("PAID", x.told(0, 5), 1);
            Check.due("at NOW", x.told(0, 8), 2);
            Check.due("PAID ORDERS", x.count(6), 1);
            Check.due("owed to it", x.at(1, 3), 50);
            Check.due("owed by the other one", x.at(0, 3), -50);
            Check.due("the other FLOAT", x.at(0, 0), c + 51);
        }
    }

    private static void noneSuch() {
        Check.sentence(10, "1 there is none such");
        Check.due("none at all", Make.pair(9, 1).pay(0, 0), 1);
        WireMoney x = known(50);
        int[] wrong = {-1, 1, 199, 200, MIN, MAX};
        for (int w : wrong) {
            Check.due("pay(" + w + ", 7)", x.pay(w, 7), 1);
        }
        WireMoney full = Make.full();
        full.go(600);
        Check.due("of 200: pay(199, 199)", full.pay(199, 199), 0);
        Check.due("of 200: pay(200, 200)", full.pay(200, 200), 1);
    }

    private static void notKnownThere() {
        Check.sentence(10, "1 it isn't KNOWN there");
        WireMoney x = Make.line(3, 2);
        x.order(0, 2, 5, 5);
        Check.due("in its first queue", x.pay(0, 5), 1);
        x.go(1);
        Check.due("on its first WIRE", x.pay(0, 5), 1);
        x.go(2);
        Check.due("on its last WIRE", x.pay(0, 5), 1);
    }

    private static void knownFromTheMinuteOfReading() {
        Check.sentence(10, "1 it isn't KNOWN there (until its PAYMENT is READ)");
        WireMoney x = Make.pair(9, 2);
        x.order(0, 1, 5, 5);
        x.go(2);
        Check.due("at 2, which has yet to pass", x.pay(0, 5), 1);
        x.go(1);
        Check.due("READ in 2", x.pay(0, 5), 0);
    }

    private static void garbledIsNotKnown() {
        Check.sentence(10, "one sign that came wrong is told and never paid");
        WireMoney x = Make.pair(900, 5);
        x.order(0, 1, 5, 5);
        x.garble(0, 12, 6);
        x.go(6);
        Check.due("by the WORD", x.pay(0, 5), 1);
        Check.due("by the WORD that came", x.pay(0, 6), 1);
        x.go(10);
        Check.due("written anew, by the WORD that came", x.pay(0, 6), 5);
        Check.due("written anew, by the WORD", x.pay(0, 5), 0);
    }

    /** A shorter WIRE comes, so that the STOP is there before the PAYMENT. */
    private static void stoppedBeforeItWasKnown() {
        Check.sentence(10, "the first of these (1 before 3)");
        WireMoney x = Make.pair(9, 30);
        x.order(0, 1, 5, 5);
        x.go(1);
        x.wire(0, 1, 1);
        x.stop(0);
        x.go(40);
        Check.due("STOPPED", x.told(0, 6), 1);
        Check.due("pay(0, 5)", x.pay(0, 5), 1);
    }

    private static void paidAlready() {
        Check.sentence(10, "2 it is PAID");
        WireMoney x = known(200);
        x.pay(0, 7);
        Check.due("pay(0, 7)", x.pay(0, 7), 2);
        x.go(1);
        Check.due("a MINUTE later", x.pay(0, 7), 2);
        Check.due("FLOAT", x.at(1, 0), 150);
        Check.due("its MINUTE", x.told(0, 8), 2);
    }

    private static WireMoney knownAndStopped(int coins) {
        WireMoney x = known(coins);
        x.stop(0);
        x.go(2);
        return x;
    }

    private static void stopped() {
        Check.sentence(10, "3 it is STOPPED");
        WireMoney x = known(50);
        x.stop(0);
        x.go(1);
        WireMoney y = knownAndStopped(50);
        Check.due("the STOP has yet to be READ", x.pay(0, 7), 0);
        Check.due("the STOP was READ", y.pay(0, 7), 3);
        y.go(10);
        Check.due("paid back", y.pay(0, 7), 3);
    }

    /** The COUNTER that pays is OPEN from 5 to 7. */
    private static WireMoney knownWithHours(int coins) {
        WireMoney x = new WireMoney();
        x.counter(0, 0, 1440);
        x.counter(coins, 5, 7);
        x.wire(0, 1, 1);
        x.order(0, 1, 50, 7);
        return x;
    }

    private static void notOpen() {
        Check.sentence(10, "4 the COUNTER isn't OPEN");
        int[][] due = {{4, 4}, {5, 0}, {6, 0}, {7, 4}, {1444, 4}, {1445, 0}, {1446, 0}, {1447, 4}};
        for (int[] d : due) {
            WireMoney x = Make.until(knownWithHours(50), d[0]);
            Check.due("from 5 to 7, at " + d[0], x.pay(0, 7), d[1]);
        }
    }

    private static void anotherWord() {
        Check.sentence(10, "5 another WORD");
        int[] words = {0, 1, 5000, 9998, 9999};
        for (int word : words) {
            WireMoney x = Make.pair(50, 1);
            x.order(0, 1, 50, word);
            x.go(2);
            int[] others = {word - 1, word + 1, word + 10000, -word - 1, MIN, MAX};
            for (int other : others) {
                Check.due("WORD " + word + ", told " + other, x.pay(0, other), 5);
            }
            Check.due("WORD " + word, x.pay(0, word), 0);
        }
    }

    private static void floatIsTooSmall() {
        Check.sentence(10, "6 the FLOAT is too small");
        WireMoney x = known(49);
        Check.due("by one coin", x.pay(0, 7), 6);
        Check.due("not PAID", x.told(0, 5), 0);
        x.cart(0, 1, 1);
        Check.due("with that coin", x.pay(0, 7), 0);
        Check.due("no coin there", known(0).pay(0, 7), 6);
    }

    private static void floatBelow0() {
        Check.sentence(10, "6 the FLOAT is too small (below 0)");
        WireMoney x = Make.pair(0, 1);
        x.order(1, 0, 100, 1);
        x.order(0, 1, 1, 7);
        x.stop(0);
        x.cart(1, 0, 101);
        x.go(10);
        Check.due("FLOAT", x.at(1, 0), -100);
        Check.due("pay(1, 7)", x.pay(1, 7), 6);
        x.cart(0, 1, 100);
        Check.due("FLOAT 0", x.pay(1, 7), 6);
        x.cart(0, 1, 1);
        Check.due("FLOAT 1", x.pay(1, 7), 0);
    }

    private static void thePayerMayBeShut() {
        Check.sentence(10, "4 the COUNTER isn't OPEN (only that which it is for)");
        WireMoney x = new WireMoney();
        x.counter(0, 0, 1);
        x.counter(50, 0, 1440);
        x.wire(0, 1, 1);
        x.order(0, 1, 50, 7);
        x.go(2);
        Check.due("the one it came from is shut", x.at(0, 1), 0);
        Check.due("pay(0, 7)", x.pay(0, 7), 0);
    }

    private static void paidIsToldBeforeTheRest() {
        Check.sentence(10, "the first of these (2 before 4, 5, 6)");
        WireMoney x = Make.until(knownWithHours(50), 5);
        Check.due("pay(0, 7)", x.pay(0, 7), 0);
        Check.due("another WORD, no coins", x.pay(0, 8), 2);
        x.go(2);
        Check.due("shut", x.pay(0, 7), 2);
        Check.due("shut, another WORD", x.pay(0, 8), 2);
    }

    private static void stoppedIsToldBeforeTheRest() {
        Check.sentence(10, "the first of these (3 before 4, 5, 6)");
        WireMoney x = knownWithHours(0);
        x.stop(0);
        x.go(4);
        Check.due("shut", x.pay(0, 7), 3);
        Check.due("shut, another WORD", x.pay(0, 8), 3);
        x.go(1);
        Check.due("another WORD", x.pay(0, 8), 3);
        Check.due("no coins", x.pay(0, 7), 3);
    }

    private static void notOpenIsToldBeforeTheRest() {
        Check.sentence(10, "the first of these (4 before 5, 6)");
        WireMoney x = Make.until(knownWithHours(0), 4);
        Check.due("another WORD", x.pay(0, 8), 4);
        Check.due("no coins", x.pay(0, 7), 4);
    }

    private static void anotherWordIsToldBeforeTheRest() {
        Check.sentence(10, "the first of these (5 before 6)");
        WireMoney x = known(0);
        Check.due("another WORD, no coins", x.pay(0, 8), 5);
    }

    private static void inTheLastMinute() {
        Check.sentence(10, "An ORDER is PAID OUT (NOW is 20000)");
        WireMoney x = Make.until(known(50), 20000);
        Check.due("pay(0, 7)", x.pay(0, 7), 0);
        Check.due("its MINUTE", x.told(0, 8), 20000);
    }

    private static void refusedChangesNothing() {
        Check.sentence(10, "What is refused changes nothing.");
        int[][] wrong = {{-1, 0, 1}, {7, 0, 1}, {4, 2, 1}, {5, 3, 1}, {0, 7, 2}, {1, 8, 3},
            {2, 8, 5}, {3, 2, 5}, {2, 9, 6}};
        for (int[] w : wrong) {
            Refusal.due(Refusal.name("pay", w[0], w[1]), Make::busy, x -> x.pay(w[0], w[1]), w[2]);
        }
    }

    private static void refusedAtAShutCounterChangesNothing() {
        Check.sentence(10, "What is refused changes nothing. (it isn't OPEN)");
        Refusal.due("pay(2, 9)", () -> Make.until(Make.busy(), 600), x -> x.pay(2, 9), 4);
    }
}
