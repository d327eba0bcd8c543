/** Promise 1, a new object: each sentence that names a boundary, alone. */
public final class Promise01Test {
    private static final int MIN = Integer.MIN_VALUE;

    public static void main(String[] args) {
        noneIsMinusOne();
        noCounters();
        nowIs0();
        nothingElseIsThere();
        noBands();
        objectsAreApart();
        the512thCallAnswers();
        refusedChangesNothing();
        Check.end("Promise01Test");
    }

    private static void noneIsMinusOne() {
        Check.sentence(1, "NONE = -1");
        Check.due("NONE", WireMoney.NONE, -1);
    }

    private static void noCounters() {
        Check.sentence(1, "No COUNTERS");
        WireMoney x = new WireMoney();
        Check.due("count(1)", x.count(1), 0);
        for (int what = 0; what <= 5; what++) {
            Check.due("at(0, " + what + ")", x.at(0, what), MIN);
        }
        Check.due("least(0, 0)", x.least(0, 0), -1);
        Check.due("the first one's number", x.counter(0, 0, 1), 0);
    }

    private static void nowIs0() {
        Check.sentence(1, "NOW is 0");
        WireMoney x = new WireMoney();
        Check.due("count(0)", x.count(0), 0);
        Check.due("go(0)", x.go(0), 0);
        Check.due("go(1)", x.go(1), 1);
    }

    private static void nothingElseIsThere() {
        Check.sentence(1, "A new object: nothing is there yet");
        WireMoney x = new WireMoney();
        for (int what = 2; what <= 7; what++) {
            Check.due("count(" + what + ")", x.count(what), 0);
        }
        for (int what = 0; what <= 13; what++) {
            Check.due("told(0, " + what + ")", x.told(0, what), -1);
            Check.due("message(0, " + what + ")", x.message(0, what), -1);
            Check.due("sign(0, " + what + ")", x.sign(0, what), -1);
        }
    }

    private static void noBands() {
        Check.sentence(1, "A new object: no BAND is there yet");
        WireMoney x = new WireMoney();
        Check.due("fee(1)", x.fee(1), 1);
        Check.due("fee(99999)", x.fee(99999), 999);
        Check.yes("the least bound is above none", x.band(1, 0));
    }

    private static void objectsAreApart() {
        Check.sentence(1, "A new object, beside a full one");
        WireMoney full = Make.full();
        WireMoney x = new WireMoney();
        for (int what = 0; what <= 7; what++) {
            Check.due("count(" + what + ")", x.count(what), 0);
        }
        Check.due("fee(10)", x.fee(10), 1);
        x.counter(5, 0, 1440);
        Check.due("counters of the full one", full.count(1), 10);
    }

    private static void the512thCallAnswers() {
        Check.sentence(1, "used for at most 512 calls");
        WireMoney x = Make.pair(0, 1);
        for (int i = 0; i < 200; i++) {
            Check.due("call " + (4 + i), x.order(0, 1, 1, i), i);
        }
        for (int i = 0; i < 200; i++) {
            Check.due("call " + (204 + i), x.stop(i), 200 + i);
        }
        Check.due("call 404", x.go(2000), 2000);
        for (int i = 0; i < 107; i++) {
            Check.due("call " + (405 + i), x.pay(i, i), 3);
        }
        Check.due("call 512", x.count(4), 600);
    }

    private static void refusedChangesNothing() {
        Check.sentence(1, "What is refused changes nothing. (a new object)");
        Refusal.due("wire", WireMoney::new, x -> x.wire(0, 1, 1), -1);
        Refusal.due("down", WireMoney::new, x -> Check.number(x.down(0, 0, 1)), 0);
        Refusal.due("least", WireMoney::new, x -> x.least(0, 1), -1);
        Refusal.due("order", WireMoney::new, x -> x.order(0, 1, 5, 5), -1);
        Refusal.due("stop", WireMoney::new, x -> x.stop(0), -1);
        Refusal.due("pay", WireMoney::new, x -> x.pay(0, 0), 1);
        Refusal.due("cart", WireMoney::new, x -> Check.number(x.cart(0, 1, 1)), 0);
        Refusal.due("garble", WireMoney::new, x -> Check.number(x.garble(0, 0, 1)), 0);
    }
}
