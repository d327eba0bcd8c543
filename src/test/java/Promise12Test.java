/** Promise 12, garble: each sentence that names a boundary, alone. */
public final class Promise12Test {
    private static final int MIN = Integer.MIN_VALUE;
    private static final int MAX = Integer.MAX_VALUE;

    public static void main(String[] args) {
        anotherDigit();
        inAQueue();
        onAWire();
        inAQueueOnItsWay();
        itWasRead();
        noSuchMessage();
        itIsNoPayment();
        aSignWasChangedAlready();
        thePaymentAnewWasNot();
        placesAre0To12();
        digitsAre0To9();
        itIsThatOne();
        aRefusedOneIsNoChange();
        everyChangeIsTold();
        inTheLastMinute();
        refusedChangesNothing();
        Check.end("Promise12Test");
    }

    /** The PAYMENT 0, of SUM 100 and WORD 7, in the queue of COUNTER 0: 0000 00100 0007. */
    private static WireMoney one(int minutes) {
        WireMoney x = Make.pair(0, minutes);
        x.order(0, 1, 100, 7);
        return x;
    }

    private static void anotherDigit() {
        Check.sentence(12, "A SIGN of a PAYMENT comes to be another digit: true");
        WireMoney x = one(1);
        int test = x.sign(0, 13);
        Check.yes("garble(0, 6, 2)", x.garble(0, 6, 2));
        int[] due = {0, 0, 0, 0, 0, 0, 2, 0, 0, 0, 0, 0, 7, test};
        for (int i = 0; i < due.length; i++) {
            Check.due("sign(0, " + i + ")", x.sign(0, i), due[i]);
        }
        Check.due("the ORDER's SUM", x.told(0, 2), 100);
    }

    private static void inAQueue() {
        Check.sentence(12, "under way (in a queue)");
        WireMoney x = one(1);
        Check.due("it is in a queue", x.message(0, 4), 0);
        Check.yes("garble", x.garble(0, 0, 9));
    }

    private static void onAWire() {
        Check.sentence(12, "under way (on a WIRE)");
        WireMoney x = one(2);
        x.go(2);
        Check.due("it is on a WIRE", x.message(0, 4), -1);
        Check.yes("garble in the last MINUTE before it comes", x.garble(0, 0, 9));
        x.go(1);
        Check.due("GARBLED", x.message(0, 6), 1);
    }

    private static void inAQueueOnItsWay() {
        Check.sentence(12, "under way (in a queue, of another COUNTER)");
        WireMoney x = Make.line(3, 1);
        x.down(1, 0, 50);
        x.order(0, 2, 100, 7);
        x.go(5);
        Check.due("it waits at 1", x.message(0, 4), 1);
        Check.yes("garble", x.garble(0, 0, 9));
        x.go(50);
        Check.due("GARBLED", x.message(0, 6), 1);
    }

    private static void itWasRead() {
        Check.sentence(12, "False if there is no such MESSAGE under way (it was READ)");
        WireMoney x = one(1);
        x.go(2);
        Check.due("READ", x.message(0, 5), 1);
        Check.no("garble", x.garble(0, 0, 9));
        Check.due("its SIGN", x.sign(0, 0), 0);
        Check.due("not GARBLED", x.message(0, 6), 0);
    }

    private static void noSuchMessage() {
        Check.sentence(12, "False if there is no such MESSAGE");
        Check.no("none at all", Make.pair(0, 1).garble(0, 0, 9));
        WireMoney x = one(1);
        int[] wrong = {-1, 1, 999, 1000, MIN, MAX};
        for (int w : wrong) {
            Check.no("garble(" + w + ", 0, 9)", x.garble(w, 0, 9));
        }
        Check.yes("garble(0, 0, 9)", x.garble(0, 0, 9));
    }

    private static void itIsNoPayment() {
        Check.sentence(12, "False if it is no PAYMENT");
        WireMoney x = one(3);
        x.stop(0);
        Check.no("a STOP", x.garble(1, 0, 9));
        x.go(5);
        Check.due("a STOPPED is under way", x.message(2, 0) * 10 + x.message(2, 4), 19);
        Check.no("a STOPPED", x.garble(2, 0, 9));
        WireMoney y = one(3);
        y.garble(0, 0, 9);
        y.go(4);
        Check.due("a REPEAT is under way", y.message(1, 0) * 10 + y.message(1, 4), 29);
        Check.no("a REPEAT", y.garble(1, 0, 9));
    }

    private static void aSignWasChangedAlready() {
        Check.sentence(12, "False if a SIGN of it was changed already");
        WireMoney x = one(3);
        Check.yes("the first", x.garble(0, 6, 2));
        Check.no("the same place", x.garble(0, 6, 3));
        Check.no("back", x.garble(0, 6, 1));
        Check.no("another place", x.garble(0, 5, 3));
        x.go(2);
        Check.no("on the WIRE", x.garble(0, 6, 1));
        Check.due("its SIGN", x.sign(0, 6), 2);
        x.order(0, 1, 100, 7);
        Check.yes("another PAYMENT", x.garble(1, 6, 2));
    }

    private static void thePaymentAnewWasNot() {
        Check.sentence(12, "a SIGN of it was changed already (the PAYMENT anew is another)");
        WireMoney x = one(1);
        x.garble(0, 0, 9);
        x.go(3);
        Check.due("it is MESSAGE 2", x.message(2, 0), 0);
        Check.yes("garble(2, 0, 9)", x.garble(2, 0, 9));
        Check.no("garble(2, 1, 9)", x.garble(2, 1, 9));
    }

    private static void placesAre0To12() {
        Check.sentence(12, "False if there is no such place");
        int[] wrong = {-1, 13, 14, MIN, MAX};
        for (int w : wrong) {
            Check.no("garble(0, " + w + ", 9)", one(1).garble(0, w, 9));
        }
        for (int place = 0; place <= 12; place++) {
            WireMoney x = one(1);
            Check.yes("garble(0, " + place + ", 9)", x.garble(0, place, 9));
            Check.due("its SIGN", x.sign(0, place), 9);
        }
    }

    private static void digitsAre0To9() {
        Check.sentence(12, "False if it is no digit");
        int[] wrong = {-1, 10, 11, MIN, MAX};
        for (int w : wrong) {
            Check.no("garble(0, 12, " + w + ")", one(1).garble(0, 12, w));
        }
        int[] right = {0, 1, 8, 9};
        for (int r : right) {
            WireMoney x = one(1);
            Check.yes("garble(0, 12, " + r + ")", x.garble(0, 12, r));
            Check.due("its SIGN", x.sign(0, 12), r);
        }
    }

    private static void itIsThatOne() {
        Check.sentence(12, "False if it is that one");
        WireMoney x = Make.pair(0, 1);
        x.order(0, 1, 90000, 4321);
        int[] signs = {0, 0, 0, 0, 9, 0, 0, 0, 0, 4, 3, 2, 1};
        for (int place = 0; place < signs.length; place++) {
            Check.no("garble(0, " + place + ", " + signs[place] + ")", x.garble(0, place, signs[place]));
        }
        x.go(2);
        Check.due("not GARBLED", x.message(0, 6), 0);
    }

    private static void aRefusedOneIsNoChange() {
        Check.sentence(12, "a SIGN of it was changed already (a refused one wasn't)");
        WireMoney x = one(1);
        x.garble(0, 13, 1);
        x.garble(0, 0, 10);
        x.garble(0, 0, 0);
        Check.yes("garble(0, 0, 1)", x.garble(0, 0, 1));
    }

    private static void everyChangeIsTold() {
        Check.sentence(12, "one sign that came wrong is told and never paid");
        int[] minutes = {0, 7200, 10080, 18720, 19990};
        for (int minute : minutes) {
            for (int place = 0; place <= 12; place++) {
                for (int digit = 0; digit <= 9; digit++) {
                    WireMoney x = Make.until(Make.pair(0, 1), minute);
                    x.order(0, 1, 90909, 909);
                    boolean changed = x.garble(0, place, digit);
                    x.go(2);
                    String what = "at " + minute + ", place " + place + ", digit " + digit;
                    Check.due(what, x.message(0, 6), Check.number(changed));
                    Check.due(what + ", KNOWN", x.told(0, 4), Check.number(!changed));
                }
            }
        }
    }

    private static void inTheLastMinute() {
        Check.sentence(12, "under way (NOW is 20000)");
        WireMoney x = Make.until(Make.pair(0, 1), 19999);
        x.order(0, 1, 5, 5);
        x.go(1);
        x.order(0, 1, 5, 5);
        Check.yes("on a WIRE for ever", x.garble(0, 0, 9));
        Check.yes("in a queue for ever", x.garble(1, 0, 9));
    }

    private static void refusedChangesNothing() {
        Check.sentence(12, "What is refused changes nothing.");
        int[][] wrong = {{-1, 0, 9}, {10, 0, 9}, {0, 0, 9}, {3, 0, 9}, {5, 0, 9}, {8, 0, 9},
            {6, 12, 8}, {6, 0, 9}, {7, -1, 9}, {7, 13, 9}, {7, 0, -1}, {7, 0, 10}, {7, 0, 0},
            {9, 12, 4}};
        for (int[] w : wrong) {
            Refusal.due(Refusal.name("garble", w), Make::busy, x -> Check.number(x.garble(w[0], w[1], w[2])), 0);
        }
    }
}
