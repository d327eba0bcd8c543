/** Promise 8, order: each sentence that names a boundary, alone. */
public final class Promise08Test {
    private static final int MIN = Integer.MIN_VALUE;
    private static final int MAX = Integer.MAX_VALUE;

    public static void main(String[] args) {
        numbersAsTheyCome();
        noSuchCounter();
        bothAreOne();
        noWay();
        aWayThatIsDown();
        sumIs1To99999();
        wordIs0To9999();
        theFirstOneIsOpen();
        theSecondOneNeedNotBe();
        twoHundredCame();
        thousandMessagesWere();
        floatIsMoreByBoth();
        thePaymentIsWrittenAtOnce();
        inTheLastMinute();
        refusedChangesNothing();
        refusedAtAShutCounterChangesNothing();
        refusedWhenTwoHundredCameChangesNothing();
        refusedWithThousandMessagesChangesNothing();
        Check.end("Promise08Test");
    }

    private static void numbersAsTheyCome() {
        Check.sentence(8, "An ORDER: its number");
        WireMoney x = Make.pair(0, 1);
        Check.due("the first", x.order(0, 1, 5, 5), 0);
        Check.due("a refused one", x.order(0, 1, 0, 5), -1);
        x.stop(0);
        Check.due("the second, of another MESSAGE", x.order(1, 0, 6, 6), 1);
        Check.due("ORDERS", x.count(3), 2);
        Check.due("SUM of the second", x.told(1, 2), 6);
    }

    private static void noSuchCounter() {
        Check.sentence(8, "NONE if there is no such COUNTER");
        Check.due("none at all", new WireMoney().order(0, 1, 5, 5), -1);
        WireMoney x = Make.line(10, 1);
        int[][] wrong = {{-1, 0}, {0, -1}, {10, 0}, {0, 10}, {9, 10}, {MIN, 0}, {0, MIN}, {MAX, 0},
            {0, MAX}};
        for (int[] w : wrong) {
            Check.due(Refusal.name("order", w), x.order(w[0], w[1], 5, 5), -1);
        }
        Check.due("from the first to the last", x.order(0, 9, 5, 5), 0);
        Check.due("from the last to the first", x.order(9, 0, 5, 5), 1);
    }

    private static void bothAreOne() {
        Check.sentence(8, "NONE if both are one");
        WireMoney x = Make.pair(0, 1);
        Check.due("order(0, 0, 5, 5)", x.order(0, 0, 5, 5), -1);
        Check.due("order(1, 1, 5, 5)", x.order(1, 1, 5, 5), -1);
        Check.due("MESSAGES", x.count(4), 0);
    }

    private static void noWay() {
        Check.sentence(8, "NONE if there is no way");
        WireMoney x = Make.counters(3);
        Check.due("no WIRES", x.order(0, 1, 5, 5), -1);
        x.wire(0, 1, 1);
        Check.due("none to 2", x.order(0, 2, 5, 5), -1);
        Check.due("none from 2", x.order(2, 0, 5, 5), -1);
        x.wire(1, 2, 1);
        Check.due("by two WIRES", x.order(0, 2, 5, 5), 0);
    }

    private static void aWayThatIsDown() {
        Check.sentence(8, "NONE if there is no way (a DOWN one is)");
        WireMoney x = Make.pair(0, 1);
        x.down(0, 0, 20000);
        Check.due("order(0, 1, 5, 5)", x.order(0, 1, 5, 5), 0);
    }

    private static void sumIs1To99999() {
        Check.sentence(8, "NONE if SUM can't be (1 .. 99999)");
        WireMoney x = Make.pair(0, 1);
        int[] wrong = {0, -1, 100000, MIN, MAX};
        for (int w : wrong) {
            Check.due("SUM " + w, x.order(0, 1, w, 5), -1);
        }
        int[] right = {1, 2, 99998, 99999};
        for (int i = 0; i < right.length; i++) {
            Check.due("SUM " + right[i], x.order(0, 1, right[i], 5), i);
            Check.due("as told", x.told(i, 2), right[i]);
        }
    }

    private static void wordIs0To9999() {
        Check.sentence(8, "NONE if WORD can't be (0 .. 9999)");
        WireMoney x = Make.pair(10, 1);
        int[] wrong = {-1, 10000, MIN, MAX};
        for (int w : wrong) {
            Check.due("WORD " + w, x.order(0, 1, 5, w), -1);
        }
        Check.due("WORD 0", x.order(0, 1, 5, 0), 0);
        Check.due("WORD 9999", x.order(0, 1, 5, 9999), 1);
        x.go(3);
        Check.due("paid by WORD 0", x.pay(0, 0), 0);
        Check.due("paid by WORD 9999", x.pay(1, 9999), 0);
    }

    private static WireMoney withHours(int opens, int shuts) {
        WireMoney x = new WireMoney();
        x.counter(0, opens, shuts);
        x.counter(0, 0, 1440);
        x.wire(0, 1, 1);
        return x;
    }

    private static void theFirstOneIsOpen() {
        Check.sentence(8, "NONE if the first one isn't OPEN");
        int[][] due = {{4, -1}, {5, 0}, {6, 0}, {7, -1}, {1444, -1}, {1445, 0}, {1446, 0}, {1447, -1}};
        for (int[] d : due) {
            WireMoney x = Make.until(withHours(5, 7), d[0]);
            Check.due("from 5 to 7, at " + d[0], x.order(0, 1, 5, 5), d[1]);
        }
        WireMoney late = Make.until(withHours(1439, 1440), 1439);
        Check.due("from 1439 to 1440, at 1439", late.order(0, 1, 5, 5), 0);
        late.go(1);
        Check.due("from 1439 to 1440, at 1440", late.order(0, 1, 5, 5), -1);
    }

    private static void theSecondOneNeedNotBe() {
        Check.sentence(8, "the first one isn't OPEN (the second one may be shut)");
        WireMoney x = Make.until(withHours(0, 1), 1);
        Check.due("to the shut one", x.order(1, 0, 5, 5), 0);
        Check.due("from the shut one", x.order(0, 1, 5, 5), -1);
    }

    private static void twoHundredCame() {
        Check.sentence(8, "NONE if 200 came");
        WireMoney x = Make.pair(0, 1);
        for (int i = 0; i < 199; i++) {
            x.order(0, 1, 5, 5);
        }
        Check.due("the 200th", x.order(0, 1, 5, 5), 199);
        Check.due("the 201st", x.order(0, 1, 5, 5), -1);
        Check.due("the 201st from the other one", x.order(1, 0, 5, 5), -1);
        Check.due("ORDERS", x.count(3), 200);
        Check.due("MESSAGES", x.count(4), 200);
        x.go(300);
        Check.due("none again when all are READ", x.order(0, 1, 5, 5), -1);
    }

    private static void thousandMessagesWere() {
        Check.sentence(8, "NONE if 1000 MESSAGES were");
        WireMoney x = Make.messages(999);
        Check.due("MESSAGES", x.count(4), 999);
        Check.due("the 1000th", x.order(0, 1, 5, 5), 5);
        Check.due("MESSAGES then", x.count(4), 1000);
        Check.due("its MESSAGE", x.message(999, 1), 5);
        Check.due("no other one", x.order(0, 1, 5, 5), -1);
        Check.due("ORDERS", x.count(3), 6);
    }

    private static void floatIsMoreByBoth() {
        Check.sentence(8, "its FLOAT is more by both");
        WireMoney x = Make.pair(0, 1);
        x.order(0, 1, 99999, 5);
        Check.due("SUM and fee", x.at(0, 0), 99999 + 999);
        Check.due("fees taken", x.at(0, 4), 999);
        Check.due("not of the other one", x.at(1, 0), 0);
        x.band(50, 0);
        x.order(1, 0, 50, 5);
        Check.due("a fee of 0", x.at(1, 0), 50);
        Check.due("no fees taken", x.at(1, 4), 0);
    }

    private static void thePaymentIsWrittenAtOnce() {
        Check.sentence(8, "put to the end of the queue of its first WIRE at once");
        WireMoney x = Make.pair(0, 1);
        x.order(0, 1, 5, 5);
        Check.due("one in the queue", x.at(0, 5), 1);
        Check.due("it is a PAYMENT", x.message(0, 0), 0);
        Check.due("it is there", x.message(0, 4), 0);
        x.order(0, 1, 6, 6);
        Check.due("two in the queue", x.at(0, 5), 2);
        x.go(1);
        Check.due("the first one went first", x.message(0, 4), -1);
        Check.due("the second one is the end", x.message(1, 4), 0);
    }

    private static void inTheLastMinute() {
        Check.sentence(8, "An ORDER (NOW is 20000)");
        WireMoney x = Make.until(Make.pair(0, 1), 20000);
        Check.due("it is taken", x.order(0, 1, 5, 5), 0);
        Check.due("its FLOAT", x.at(0, 0), 6);
    }

    private static void refusedChangesNothing() {
        Check.sentence(8, "What is refused changes nothing.");
        int[][] wrong = {{-1, 0, 5, 5}, {3, 0, 5, 5}, {0, 3, 5, 5}, {0, 0, 5, 5}, {0, 1, 0, 5},
            {0, 1, 100000, 5}, {0, 1, 5, -1}, {0, 1, 5, 10000}};
        for (int[] w : wrong) {
            Refusal.due(Refusal.name("order", w), Make::busy, x -> x.order(w[0], w[1], w[2], w[3]), -1);
        }
        Refusal.due("no way", () -> Make.counters(2), x -> x.order(0, 1, 5, 5), -1);
    }

    private static void refusedAtAShutCounterChangesNothing() {
        Check.sentence(8, "What is refused changes nothing. (it isn't OPEN)");
        Refusal.due("shut", () -> Make.until(Make.busy(), 600), x -> x.order(2, 0, 5, 5), -1);
    }

    private static void refusedWhenTwoHundredCameChangesNothing() {
        Check.sentence(8, "What is refused changes nothing. (200 came)");
        Refusal.due("the 201st", Make::full, x -> x.order(0, 1, 5, 5), -1);
    }

    private static void refusedWithThousandMessagesChangesNothing() {
        Check.sentence(8, "What is refused changes nothing. (1000 MESSAGES)");
        Refusal.due("order", () -> Make.messages(1000), x -> x.order(0, 1, 5, 5), -1);
    }
}
