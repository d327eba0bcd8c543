/** Promise 17, at: each sentence that names a boundary, alone. */
public final class Promise17Test {
    private static final int MIN = Integer.MIN_VALUE;
    private static final int MAX = Integer.MAX_VALUE;

    public static void main(String[] args) {
        noneSuch();
        forOthers();
        theFloat();
        whetherItIsOpen();
        lackIsAtLeast0();
        lackOfKnownOnes();
        lackWithoutPaidAndStopped();
        lackOfAFloatBelow0();
        lackIsOfOneCounter();
        theLargestLack();
        owedToIt();
        owedIsTogetherNothing();
        feesTaken();
        messagesInItsQueues();
        messagesInOthersQueues();
        allMessagesInOneQueue();
        looksChangeNothing();
        Check.end("Promise17Test");
    }

    private static void noneSuch() {
        Check.sentence(17, "-2147483648 if there is none such");
        Check.due("none at all", new WireMoney().at(0, 0), MIN);
        WireMoney x = Make.counters(1);
        int[] wrong = {-1, 1, 9, 10, MIN, MAX};
        for (int w : wrong) {
            for (int what = 0; what <= 5; what++) {
                Check.due("at(" + w + ", " + what + ")", x.at(w, what), -2147483648);
            }
        }
        WireMoney ten = Make.counters(10);
        Check.due("of ten: at(9, 0)", ten.at(9, 0), 1000);
        Check.due("of ten: at(10, 0)", ten.at(10, 0), MIN);
    }

    private static void forOthers() {
        Check.sentence(17, "-2147483648 for others");
        WireMoney x = Make.counters(1);
        int[] wrong = {-1, 6, 7, MIN, MAX};
        for (int w : wrong) {
            Check.due("at(0, " + w + ")", x.at(0, w), -2147483648);
        }
        int[] due = {1000, 1, 0, 0, 0, 0};
        for (int what = 0; what < due.length; what++) {
            Check.due("at(0, " + what + ")", x.at(0, what), due[what]);
        }
    }

    private static void theFloat() {
        Check.sentence(17, "0 FLOAT");
        WireMoney x = new WireMoney();
        x.counter(0, 0, 1440);
        x.counter(1000000, 0, 1440);
        x.wire(0, 1, 1);
        Check.due("the least", x.at(0, 0), 0);
        Check.due("the largest", x.at(1, 0), 1000000);
        x.order(1, 0, 99999, 5);
        Check.due("more than that", x.at(1, 0), 1000000 + 99999 + 999);
        x.order(0, 1, 1, 5);
        x.stop(1);
        x.cart(0, 1, 2);
        x.go(10);
        Check.due("below 0", x.at(0, 0), -1);
    }

    private static void whetherItIsOpen() {
        Check.sentence(17, "1 whether it is OPEN");
        WireMoney x = new WireMoney();
        x.counter(0, 2, 4);
        int[] due = {0, 0, 1, 1, 0};
        for (int minute = 0; minute < due.length; minute++) {
            Check.due("at " + minute, x.at(0, 1), due[minute]);
            x.go(1);
        }
        x.go(1442 - 5);
        Check.due("at 1442", x.at(0, 1), 1);
        x.go(2);
        Check.due("at 1444", x.at(0, 1), 0);
    }

    private static WireMoney known(int coins, int sum) {
        WireMoney x = new WireMoney();
        x.counter(0, 0, 1440);
        x.counter(coins, 0, 1440);
        x.wire(0, 1, 1);
        x.order(0, 1, sum, 5);
        x.go(2);
        return x;
    }

    private static void lackIsAtLeast0() {
        Check.sentence(17, "2 LACK: how much more .. than its FLOAT (0 at least)");
        int[][] due = {{0, 50, 50}, {49, 50, 1}, {50, 50, 0}, {51, 50, 0}, {1000000, 1, 0}, {0, 1, 1},
            {0, 99999, 99999}};
        for (int[] d : due) {
            Check.due("FLOAT " + d[0] + ", SUM " + d[1], known(d[0], d[1]).at(1, 2), d[2]);
        }
    }

    private static void lackOfKnownOnes() {
        Check.sentence(17, "LACK: the SUMS of ORDERS that are KNOWN there, together");
        WireMoney x = Make.pair(0, 1);
        x.order(0, 1, 7, 5);
        x.order(0, 1, 30, 5);
        x.order(0, 1, 400, 5);
        x.garble(1, 0, 9);
        int[] due = {0, 0, 7, 7, 407, 437};
        for (int minute = 0; minute < due.length; minute++) {
            Check.due("at " + minute, x.at(1, 2), due[minute]);
            x.go(1);
        }
    }

    private static void lackWithoutPaidAndStopped() {
        Check.sentence(17, "LACK: .. neither PAID nor STOPPED");
        WireMoney x = Make.pair(7, 1);
        x.order(0, 1, 7, 5);
        x.order(0, 1, 30, 5);
        x.go(3);
        Check.due("both are KNOWN", x.at(1, 2), 30);
        x.pay(0, 5);
        Check.due("one is PAID, with coins", x.at(1, 2), 30);
        x.stop(1);
        Check.due("a STOP is written", x.at(1, 2), 30);
        x.go(1);
        Check.due("a STOP is on its WIRE", x.at(1, 2), 30);
        x.go(1);
        Check.due("the other one is STOPPED", x.at(1, 2), 0);
    }

    private static void lackOfAFloatBelow0() {
        Check.sentence(17, "LACK: .. than its FLOAT (below 0)");
        WireMoney x = Make.pair(0, 1);
        x.order(0, 1, 100, 5);
        x.stop(0);
        x.cart(0, 1, 101);
        x.go(10);
        Check.due("of no ORDERS", x.at(0, 2), 100);
        x.order(1, 0, 30, 5);
        x.go(2);
        Check.due("of one", x.at(0, 2), 130);
    }

    private static void lackIsOfOneCounter() {
        Check.sentence(17, "LACK of a COUNTER: .. KNOWN there");
        WireMoney x = Make.line(3, 1);
        for (int from = 0; from < 3; from++) {
            x.cart(from, (from + 1) % 3, 1000);
        }
        x.cart(0, 1, 1000);
        x.order(1, 2, 2000, 5);
        x.order(1, 0, 30, 5);
        x.go(4);
        Check.due("of 0", x.at(0, 2), 30);
        Check.due("of 1", x.at(1, 2), 0);
        Check.due("of 2", x.at(2, 2), 1000);
    }

    private static void theLargestLack() {
        Check.sentence(17, "LACK (of 200 ORDERS of 99999)");
        WireMoney x = Make.pair(0, 1);
        for (int i = 0; i < 200; i++) {
            x.order(0, 1, 99999, 5);
        }
        x.go(300);
        Check.due("KNOWN", x.at(1, 2), 19999800);
        for (int i = 0; i < 200; i++) {
            x.stop(i);
        }
        x.cart(0, 1, 200 * (99999 + 999));
        x.go(300);
        Check.due("FLOAT", x.at(0, 0), -19999800);
        Check.due("FLOAT below 0", x.at(0, 2), 19999800);
    }

    private static void owedToIt() {
        Check.sentence(17, "3 what others owe it less what it owes");
        WireMoney x = known(50, 50);
        Check.due("KNOWN", x.at(1, 3), 0);
        x.pay(0, 5);
        Check.due("PAID: owed to 1", x.at(1, 3), 50);
        Check.due("PAID: owed to 0", x.at(0, 3), -50);
        x.cart(0, 1, 49);
        Check.due("owed to 1, a coin less", x.at(1, 3), 1);
        Check.due("-1 is no NONE", x.at(0, 3), -1);
        x.cart(0, 1, 1);
        Check.due("nothing is owed", x.at(0, 3), 0);
    }

    private static void owedIsTogetherNothing() {
        Check.sentence(17, "what counters owe one another, which is together nothing");
        WireMoney x = Make.full();
        x.go(600);
        int paid = 0;
        for (int i = 0; i < 200; i++) {
            paid += x.pay(i, i) == 0 ? 1 : 0;
        }
        x.cart(3, 7, 1);
        Check.yes("many are PAID", paid > 50);
        int owed = 0;
        for (int counter = 0; counter < 10; counter++) {
            owed += x.at(counter, 3);
        }
        Check.due("together", owed, 0);
    }

    private static void feesTaken() {
        Check.sentence(17, "4 fees taken");
        WireMoney x = Make.pair(100, 1);
        Check.due("none yet", x.at(0, 4), 0);
        x.order(0, 1, 1, 5);
        Check.due("the least", x.at(0, 4), 1);
        x.band(10, 0);
        x.order(0, 1, 10, 5);
        Check.due("a fee of 0", x.at(0, 4), 1);
        x.band(11, 1000);
        x.order(0, 1, 11, 5);
        Check.due("the largest", x.at(0, 4), 1001);
        x.stop(0);
        x.go(10);
        x.pay(1, 5);
        Check.due("when it is paid back, or PAID", x.at(0, 4), 1001);
        Check.due("of the other one", x.at(1, 4), 0);
    }

    private static void messagesInItsQueues() {
        Check.sentence(17, "5 MESSAGES in its queues");
        WireMoney x = Make.line(3, 1);
        Check.due("none", x.at(1, 5), 0);
        x.down(1, 0, 20000);
        x.order(1, 0, 5, 5);
        x.order(1, 2, 5, 5);
        x.order(0, 2, 5, 5);
        Check.due("one in each of two", x.at(1, 5), 2);
        Check.due("one at 0", x.at(0, 5), 1);
        x.go(1);
        Check.due("one is left, one isn't there yet", x.at(1, 5), 1);
        Check.due("none on a WIRE", x.at(0, 5), 0);
        x.go(1);
        Check.due("one came", x.at(1, 5), 2);
        Check.due("one that was READ is in none", x.at(0, 5), 0);
        Check.due("none at the other end", x.at(2, 5), 0);
    }

    private static void messagesInOthersQueues() {
        Check.sentence(17, "5 MESSAGES in its queues (not in those of others)");
        WireMoney x = Make.line(4, 1);
        for (int wire = 0; wire < 3; wire++) {
            x.down(wire, 0, 20000);
        }
        int[][] orders = {{0, 1}, {1, 0}, {1, 0}, {1, 2}, {2, 1}, {2, 1}, {2, 3}, {2, 3}, {3, 0}};
        for (int[] o : orders) {
            x.order(o[0], o[1], 5, 5);
        }
        x.go(3);
        int[] due = {1, 3, 4, 1};
        for (int counter = 0; counter < due.length; counter++) {
            Check.due("at(" + counter + ", 5)", x.at(counter, 5), due[counter]);
        }
    }

    private static void allMessagesInOneQueue() {
        Check.sentence(17, "5 MESSAGES in its queues (of 200 ORDERS, with STOPS)");
        WireMoney x = Make.pair(0, 1);
        x.down(0, 0, 20000);
        for (int i = 0; i < 200; i++) {
            x.order(0, 1, 5, 5);
            x.stop(i);
        }
        Check.due("all", x.at(0, 5), 400);
        x.down(0, 0, 1);
        x.go(2);
        Check.due("all but one", x.at(0, 5), 399);
        x.go(400);
        Check.due("none", x.at(0, 5), 0);
    }

    private static void looksChangeNothing() {
        Check.sentence(17, "What is refused changes nothing.");
        int[][] wrong = {{-1, 0}, {3, 0}, {0, -1}, {0, 6}, {MIN, MAX}};
        for (int[] w : wrong) {
            Refusal.due(Refusal.name("at", w), Make::busy, x -> x.at(w[0], w[1]), MIN);
        }
    }
}
