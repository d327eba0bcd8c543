/** Promise 18, count: each sentence that names a boundary, alone. */
public final class Promise18Test {
    private static final int MIN = Integer.MIN_VALUE;
    private static final int MAX = Integer.MAX_VALUE;

    public static void main(String[] args) {
        noneForOthers();
        now();
        countersAndWires();
        orders();
        messages();
        garbledOnes();
        paidOrders();
        stopsThatCameTooLate();
        looksChangeNothing();
        Check.end("Promise18Test");
    }

    private static void noneForOthers() {
        Check.sentence(18, "NONE for others");
        int[] wrong = {-1, 8, 9, MIN, MAX};
        for (int w : wrong) {
            Check.due("new: count(" + w + ")", new WireMoney().count(w), -1);
            Check.due("busy: count(" + w + ")", Make.busy().count(w), -1);
        }
        int[] due = {21, 3, 3, 7, 10, 0, 1, 0};
        for (int what = 0; what < due.length; what++) {
            Check.due("count(" + what + ")", Make.busy().count(what), due[what]);
        }
    }

    private static void now() {
        Check.sentence(18, "0 NOW (0 .. 20000)");
        WireMoney x = new WireMoney();
        Check.due("0", x.count(0), 0);
        x.go(1);
        Check.due("1", x.count(0), 1);
        Make.until(x, 20000);
        Check.due("20000", x.count(0), 20000);
        x.go(1);
        Check.due("not beyond", x.count(0), 20000);
    }

    private static void countersAndWires() {
        Check.sentence(18, "1 COUNTERS, 2 WIRES (at most 10, at most 15)");
        WireMoney x = new WireMoney();
        for (int i = 1; i <= 12; i++) {
            x.counter(0, 0, 1440);
            Check.due("COUNTERS", x.count(1), Math.min(i, 10));
        }
        for (int i = 1; i <= 17; i++) {
            x.wire(0, 9, 1);
            Check.due("WIRES", x.count(2), Math.min(i, 15));
        }
    }

    private static void orders() {
        Check.sentence(18, "3 ORDERS (at most 200)");
        WireMoney x = Make.pair(0, 1);
        for (int i = 1; i <= 202; i++) {
            x.order(0, 1, 5, 5);
            Check.due("ORDERS", x.count(3), Math.min(i, 200));
        }
    }

    private static void messages() {
        Check.sentence(18, "4 MESSAGES (at most 1000)");
        WireMoney x = Make.messages(999);
        Check.due("999", x.count(4), 999);
        x.stop(0);
        Check.due("1000", x.count(4), 1000);
        x.stop(1);
        x.order(0, 1, 5, 5);
        Make.lift(x);
        x.go(50);
        Check.due("no more", x.count(4), 1000);
    }

    private static void garbledOnes() {
        Check.sentence(18, "5 GARBLED ones");
        WireMoney x = Make.pair(0, 1);
        x.order(0, 1, 5, 5);
        x.garble(0, 0, 9);
        Check.due("changed, not READ", x.count(5), 0);
        x.go(1);
        Check.due("on its WIRE", x.count(5), 0);
        x.go(1);
        Check.due("READ", x.count(5), 1);
        x.go(10);
        Check.due("the PAYMENT anew isn't", x.count(5), 1);
        x.order(0, 1, 5, 5);
        x.garble(3, 0, 9);
        x.go(10);
        Check.due("another one", x.count(5), 2);
    }

    private static void paidOrders() {
        Check.sentence(18, "6 PAID ORDERS");
        WireMoney x = Make.pair(10, 1);
        x.order(0, 1, 5, 5);
        x.order(0, 1, 5, 5);
        x.go(3);
        x.pay(0, 6);
        Check.due("none", x.count(6), 0);
        x.pay(0, 5);
        Check.due("one", x.count(6), 1);
        x.pay(0, 5);
        Check.due("not twice", x.count(6), 1);
        x.pay(1, 5);
        Check.due("both", x.count(6), 2);
    }

    private static void stopsThatCameTooLate() {
        Check.sentence(18, "7 STOPS that came too late");
        WireMoney x = Make.pair(10, 1);
        x.order(0, 1, 5, 5);
        x.order(0, 1, 5, 5);
        x.go(3);
        x.pay(0, 5);
        x.stop(0);
        x.stop(1);
        Check.due("written", x.count(7), 0);
        x.go(1);
        Check.due("on its WIRE", x.count(7), 0);
        x.go(1);
        Check.due("READ", x.count(7), 1);
        x.go(10);
        Check.due("the other one wasn't too late", x.count(7), 1);
        x.order(0, 1, 5, 5);
        x.go(2);
        x.pay(2, 5);
        x.stop(2);
        x.go(10);
        Check.due("a third one was", x.count(7), 2);
    }

    private static void looksChangeNothing() {
        Check.sentence(18, "What is refused changes nothing.");
        int[] wrong = {-1, 8, MIN, MAX};
        for (int w : wrong) {
            Refusal.due("count(" + w + ")", Make::busy, x -> x.count(w), -1);
        }
    }
}
