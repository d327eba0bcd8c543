/** Promise 16, told: each sentence that names a boundary, alone. */
public final class Promise16Test {
    private static final int MIN = Integer.MIN_VALUE;
    private static final int MAX = Integer.MAX_VALUE;

    public static void main(String[] args) {
        noneSuch();
        theLastOrder();
        noneForOthers();
        fromAndTo();
        sumAndFee();
        known();
        paid();
        stopped();
        paidBack();
        theMinuteOfPaying();
        howManyPayments();
        looksChangeNothing();
        Check.end("Promise16Test");
    }

    private static void noneSuch() {
        Check.sentence(16, "NONE if there is none such");
        WireMoney x = Make.pair(0, 1);
        Check.due("none at all", x.told(0, 0), -1);
        x.order(0, 1, 5, 5);
        int[] wrong = {-1, 1, 199, 200, MIN, MAX};
        for (int w : wrong) {
            for (int what = 0; what <= 9; what++) {
                Check.due("told(" + w + ", " + what + ")", x.told(w, what), -1);
            }
        }
        Check.due("told(0, 0)", x.told(0, 0), 0);
    }

    private static void theLastOrder() {
        Check.sentence(16, "ORDERS have numbers as they come, 0 .. 199");
        WireMoney x = Make.full();
        Check.due("SUM of 0", x.told(0, 2), 1);
        Check.due("SUM of 199", x.told(199, 2), 200);
        Check.due("SUM of 200", x.told(200, 2), -1);
    }

    private static void noneForOthers() {
        Check.sentence(16, "NONE for others");
        WireMoney x = Make.pair(0, 1);
        x.order(1, 0, 250, 5);
        int[] wrong = {-1, 10, 11, MIN, MAX};
        for (int w : wrong) {
            Check.due("told(0, " + w + ")", x.told(0, w), -1);
        }
        int[] due = {1, 0, 250, 2, 0, 0, 0, 0, -1, 1};
        for (int what = 0; what < due.length; what++) {
            Check.due("told(0, " + what + ")", x.told(0, what), due[what]);
        }
    }

    private static void fromAndTo() {
        Check.sentence(16, "0 from, 1 to");
        WireMoney x = Make.line(10, 1);
        x.order(0, 9, 5, 5);
        x.order(9, 0, 5, 5);
        Check.due("from 0", x.told(0, 0), 0);
        Check.due("to 9", x.told(0, 1), 9);
        Check.due("from 9", x.told(1, 0), 9);
        Check.due("to 0", x.told(1, 1), 0);
    }

    private static void sumAndFee() {
        Check.sentence(16, "2 SUM, 3 its fee");
        WireMoney x = Make.pair(0, 1);
        x.order(0, 1, 1, 5);
        x.order(0, 1, 99999, 5);
        x.band(1, 0);
        x.band(2, 1000);
        x.order(0, 1, 1, 5);
        x.order(0, 1, 2, 5);
        int[][] due = {{1, 1}, {99999, 999}, {1, 0}, {2, 1000}};
        for (int order = 0; order < due.length; order++) {
            Check.due("SUM of " + order, x.told(order, 2), due[order][0]);
            Check.due("fee of " + order, x.told(order, 3), due[order][1]);
        }
    }

    private static void known() {
        Check.sentence(16, "4 whether it is KNOWN");
        WireMoney x = Make.pair(0, 2);
        x.order(0, 1, 5, 5);
        int[] due = {0, 0, 0, 1, 1};
        for (int minute = 0; minute < due.length; minute++) {
            Check.due("at " + minute, x.told(0, 4), due[minute]);
            x.go(1);
        }
        x.stop(0);
        x.go(10);
        Check.due("when it is STOPPED, too", x.told(0, 4), 1);
    }

    private static void paid() {
        Check.sentence(16, "5 PAID");
        WireMoney x = Make.pair(10, 1);
        x.order(0, 1, 5, 5);
        x.go(2);
        Check.due("before", x.told(0, 5), 0);
        x.pay(0, 6);
        Check.due("refused", x.told(0, 5), 0);
        x.pay(0, 5);
        Check.due("PAID", x.told(0, 5), 1);
        x.stop(0);
        x.go(10);
        Check.due("a STOP came too late", x.told(0, 5), 1);
        Check.due("it isn't STOPPED", x.told(0, 6), 0);
        Check.due("KNOWN", x.told(0, 4), 1);
    }

    private static void stopped() {
        Check.sentence(16, "6 STOPPED");
        WireMoney x = Make.pair(0, 1);
        x.order(0, 1, 5, 5);
        x.stop(0);
        int[] due = {0, 0, 0, 1, 1};
        for (int minute = 0; minute < due.length; minute++) {
            Check.due("at " + minute, x.told(0, 6), due[minute]);
            x.go(1);
        }
    }

    private static void paidBack() {
        Check.sentence(16, "7 paid back");
        WireMoney x = Make.pair(0, 1);
        x.order(0, 1, 5, 5);
        x.stop(0);
        int[] due = {0, 0, 0, 0, 1, 1};
        for (int minute = 0; minute < due.length; minute++) {
            Check.due("at " + minute, x.told(0, 7), due[minute]);
            x.go(1);
        }
    }

    private static void theMinuteOfPaying() {
        Check.sentence(16, "8 the MINUTE at which it was PAID (NONE)");
        WireMoney x = Make.pair(10, 1);
        x.order(0, 1, 5, 5);
        x.order(0, 1, 5, 5);
        x.go(2);
        Check.due("not PAID", x.told(0, 8), -1);
        x.pay(0, 5);
        Check.due("the first that can be", x.told(0, 8), 2);
        Make.until(x, 20000);
        x.pay(0, 5);
        Check.due("as it was", x.told(0, 8), 2);
        x.pay(1, 5);
        Check.due("the last that can be", x.told(1, 8), 20000);
    }

    private static void howManyPayments() {
        Check.sentence(16, "9 how many PAYMENTS were written");
        WireMoney x = Make.pair(0, 1);
        x.order(0, 1, 5, 5);
        Check.due("at once", x.told(0, 9), 1);
        x.garble(0, 0, 9);
        x.go(2);
        Check.due("a REPEAT is none", x.told(0, 9), 1);
        x.go(1);
        Check.due("anew", x.told(0, 9), 2);
        x.garble(2, 0, 9);
        x.go(2);
        Check.due("anew again", x.told(0, 9), 3);
        x.stop(0);
        x.go(20);
        Check.due("STOPS are none", x.told(0, 9), 3);
    }

    private static void looksChangeNothing() {
        Check.sentence(16, "What is refused changes nothing.");
        int[][] wrong = {{-1, 0}, {7, 0}, {200, 0}, {0, -1}, {0, 10}, {MIN, MAX}};
        for (int[] w : wrong) {
            Refusal.due(Refusal.name("told", w), Make::busy, x -> x.told(w[0], w[1]), -1);
        }
    }
}
