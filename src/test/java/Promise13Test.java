/** Promise 13, go, with the MINUTE of the Terms: each sentence that names a boundary, alone. */
public final class Promise13Test {
    private static final int MIN = Integer.MIN_VALUE;
    private static final int MAX = Integer.MAX_VALUE;

    public static void main(String[] args) {
        nIs0To2000();
        noMinutePasses();
        upTo20000();
        at20000NoMinutePasses();
        theLastMinuteThatPasses();
        manyAtOnceAreManyAlone();
        refusedChangesNothing();
        messagesByNumbers();
        readByNumbers();
        toTheEndOfTheQueue();
        toTheEndOfAQueueThatMoves();
        aQueueThatWasEmptied();
        oneSetsOutEachWay();
        asManyMinutesLater();
        writtenInStepOneSetsOutInStepTwo();
        onInTheMinuteInWhichItCame();
        theLeastNumberNextToOne();
        theWireOfTheFewestMinutes();
        ofLikeWiresTheLeastNumber();
        eachTimeAnew();
        garbledIsRepeated();
        garbledIsRepeatedIfStoppedToo();
        knownIfItIsNotStopped();
        theTestOfThatDay();
        fitsOnTheNextDay();
        noPaymentAnewIfStopped();
        paidBackWithoutTheFee();
        floatMayBeBelow0();
        thousandMessagesGarbled();
        thousandMessagesRepeat();
        thousandMessagesStop();
        thousandMessagesKnown();
        Check.end("Promise13Test");
    }

    private static void nIs0To2000() {
        Check.sentence(13, "n MINUTES pass (0 .. 2000); NONE for another n");
        int[] right = {0, 1, 2, 1999, 2000};
        for (int r : right) {
            WireMoney x = new WireMoney();
            Check.due("go(" + r + ")", x.go(r), r);
            Check.due("NOW", x.count(0), r);
        }
        int[] wrong = {-1, 2001, 20000, MIN, MAX};
        for (int w : wrong) {
            WireMoney x = new WireMoney();
            Check.due("go(" + w + ")", x.go(w), -1);
            Check.due("NOW", x.count(0), 0);
        }
    }

    private static void noMinutePasses() {
        Check.sentence(13, "n MINUTES pass (0)");
        WireMoney x = Make.pair(0, 1);
        x.order(0, 1, 5, 5);
        Check.due("go(0)", x.go(0), 0);
        Check.due("none set out", x.at(0, 5), 1);
    }

    private static void upTo20000() {
        Check.sentence(13, "up to 20000");
        int[][] due = {{17999, 2000, 19999}, {18000, 2000, 20000}, {18001, 2000, 20000},
            {19998, 1, 19999}, {19999, 0, 19999}, {19999, 1, 20000}, {19999, 2, 20000},
            {19999, 2000, 20000}, {19999, 2001, -1}};
        for (int[] d : due) {
            WireMoney x = Make.until(new WireMoney(), d[0]);
            Check.due("at " + d[0] + " go(" + d[1] + ")", x.go(d[1]), d[2]);
        }
    }

    private static void at20000NoMinutePasses() {
        Check.sentence(13, "up to 20000 (it is)");
        WireMoney x = Make.until(Make.pair(0, 1), 20000);
        x.order(0, 1, 5, 5);
        int[] right = {0, 1, 2000};
        for (int r : right) {
            Check.due("go(" + r + ")", x.go(r), 20000);
            Check.due("its queue stays", x.at(0, 5), 1);
        }
        int[] wrong = {-1, 2001, MIN, MAX};
        for (int w : wrong) {
            Check.due("go(" + w + ")", x.go(w), -1);
        }
        Check.due("NOW", x.count(0), 20000);
    }

    private static void theLastMinuteThatPasses() {
        Check.sentence(13, "(3) NOW is one more (19999 is the last that passes)");
        WireMoney x = Make.until(Make.pair(0, 1), 19998);
        x.order(0, 1, 5, 5);
        x.order(0, 1, 6, 6);
        x.order(0, 1, 7, 7);
        x.go(2000);
        Check.due("READ in 19999", x.message(0, 5), 19999);
        Check.due("KNOWN", x.told(0, 4), 1);
        Check.due("on its WIRE since 19999", x.message(1, 4), -1);
        Check.due("never READ", x.message(1, 5), -1);
        Check.due("never KNOWN", x.told(1, 4), 0);
        Check.due("in its queue", x.message(2, 4), 0);
    }

    private static void manyAtOnceAreManyAlone() {
        Check.sentence(13, "n MINUTES pass (at once or one by one)");
        WireMoney x = Make.busy();
        WireMoney y = Make.busy();
        x.go(60);
        for (int i = 0; i < 60; i++) {
            y.go(1);
        }
        for (int what = 0; what <= 7; what++) {
            Check.due("count(" + what + ")", x.count(what), y.count(what));
        }
        for (int message = 0; message < x.count(4); message++) {
            Check.due("place of " + message, x.message(message, 4), y.message(message, 4));
            Check.due("MINUTE of " + message, x.message(message, 5), y.message(message, 5));
        }
    }

    private static void refusedChangesNothing() {
        Check.sentence(13, "What is refused changes nothing.");
        int[] wrong = {-1, 2001, MIN, MAX};
        for (int w : wrong) {
            Refusal.due("go(" + w + ")", Make::busy, x -> x.go(w), -1);
            Refusal.due("go(" + w + ") as one comes", Promise13Test::oneComesNow, x -> x.go(w), -1);
        }
    }

    private static WireMoney oneComesNow() {
        WireMoney x = Make.pair(0, 1);
        x.order(0, 1, 5, 5);
        x.order(0, 1, 6, 6);
        x.go(1);
        return x;
    }

    /** Both come to COUNTER 1 in MINUTE 1; the WIRE of MESSAGE 1 has the smaller number. */
    private static void messagesByNumbers() {
        Check.sentence(13, "(1) MESSAGES, by numbers, that come to a COUNTER in it");
        WireMoney x = Make.counters(4);
        x.wire(3, 1, 1);
        x.wire(2, 1, 1);
        x.wire(1, 0, 1);
        x.order(2, 0, 5, 5);
        x.order(3, 0, 5, 5);
        x.go(10);
        Check.due("MESSAGE 0", x.message(0, 5), 2);
        Check.due("MESSAGE 1", x.message(1, 5), 3);
    }

    /** A new WIRE lets the STOP come in the MINUTE of its PAYMENT. */
    private static void readByNumbers() {
        Check.sentence(13, "(1) MESSAGES, by numbers .. are READ");
        WireMoney x = Make.pair(0, 5);
        x.order(0, 1, 5, 5);
        x.stop(0);
        x.go(1);
        x.wire(0, 1, 3);
        x.order(0, 1, 6, 6);
        x.go(1);
        x.stop(1);
        x.go(20);
        Check.due("ORDER 1 in 4", x.message(2, 5), 4);
        Check.due("its STOP in 5", x.message(3, 5), 5);
        Check.due("ORDER 0 in 5", x.message(0, 5), 5);
        Check.due("the STOPPED of ORDER 1 has the smaller number", x.message(4, 1), 1);
        WireMoney y = Make.pair(0, 5);
        y.order(0, 1, 5, 5);
        y.go(1);
        y.wire(0, 1, 4);
        y.stop(0);
        y.go(20);
        Check.due("PAYMENT in 5", y.message(0, 5), 5);
        Check.due("STOP in 5", y.message(1, 5), 5);
        Check.due("KNOWN before it was STOPPED", y.told(0, 4), 1);
        Check.due("STOPPED", y.told(0, 6), 1);
    }

    private static void toTheEndOfTheQueue() {
        Check.sentence(13, "at others they are put to the end of the queue");
        WireMoney x = Make.line(3, 1);
        x.down(1, 0, 10);
        x.order(0, 2, 5, 5);
        x.order(1, 2, 6, 6);
        x.go(3);
        x.order(1, 2, 7, 7);
        x.go(20);
        Check.due("first the one written there", x.message(1, 5), 11);
        Check.due("then the one that came", x.message(0, 5), 12);
        Check.due("then the one written later", x.message(2, 5), 13);
    }

    private static void toTheEndOfAQueueThatMoves() {
        Check.sentence(13, "put to the end of the queue (while others of it set out)");
        WireMoney x = Make.pair(0, 1);
        x.order(0, 1, 5, 5);
        x.order(0, 1, 5, 5);
        x.order(0, 1, 5, 5);
        x.go(1);
        x.order(0, 1, 5, 5);
        x.go(1);
        x.stop(0);
        Check.due("three wait", x.at(0, 5), 3);
        x.go(10);
        for (int message = 0; message <= 4; message++) {
            Check.due("MESSAGE " + message, x.message(message, 5), 1 + message);
        }
    }

    private static void aQueueThatWasEmptied() {
        Check.sentence(13, "put to the end of the queue (nothing is in it any more)");
        WireMoney x = Make.pair(0, 1);
        x.order(0, 1, 5, 5);
        x.go(5);
        x.order(0, 1, 5, 5);
        x.go(5);
        Check.due("the first", x.message(0, 5), 1);
        Check.due("the second", x.message(1, 5), 6);
    }

    private static void oneSetsOutEachWay() {
        Check.sentence(13, "(2) the first MESSAGE of its queue sets out");
        WireMoney x = Make.pair(0, 9);
        for (int i = 0; i < 3; i++) {
            x.order(0, 1, 5, 5);
            x.order(1, 0, 5, 5);
        }
        for (int left = 2; left >= 0; left--) {
            x.go(1);
            Check.due("left at 0", x.at(0, 5), left);
            Check.due("left at 1", x.at(1, 5), left);
        }
        x.go(1);
        Check.due("none is left", x.at(0, 5), 0);
        x.go(20);
        for (int message = 0; message < 6; message++) {
            Check.due("MESSAGE " + message, x.message(message, 5), 9 + message / 2);
        }
    }

    private static void asManyMinutesLater() {
        Check.sentence(13, "it comes to the other end as many MINUTES later as the WIRE takes");
        int[] minutes = {1, 2, 59, 60};
        for (int m : minutes) {
            WireMoney x = Make.pair(0, m);
            x.go(3);
            x.order(0, 1, 5, 5);
            x.go(m);
            Check.due("on a WIRE of " + m, x.message(0, 4), -1);
            x.go(1);
            Check.due("READ", x.message(0, 5), 3 + m);
        }
    }

    private static void writtenInStepOneSetsOutInStepTwo() {
        Check.sentence(13, "those written in (1) can so set out in (2)");
        WireMoney x = Make.pair(0, 1);
        x.order(0, 1, 5, 5);
        x.garble(0, 0, 9);
        x.go(2);
        Check.due("the REPEAT is on the WIRE", x.message(1, 4), -1);
        x.go(1);
        Check.due("the REPEAT was READ", x.message(1, 5), 2);
        Check.due("the PAYMENT anew is on the WIRE", x.message(2, 4), -1);
    }

    private static void onInTheMinuteInWhichItCame() {
        Check.sentence(13, "put to the end of the queue .. (2) the first MESSAGE sets out");
        WireMoney x = Make.line(10, 1);
        x.order(0, 9, 5, 5);
        x.go(9);
        Check.due("at 9", x.message(0, 5), -1);
        x.go(1);
        Check.due("nine WIRES", x.message(0, 5), 9);
    }

    /** Straight, by 1 and by 2 it is 4 each: by 1, if the COUNTER itself isn't less. */
    private static void theLeastNumberNextToOne() {
        Check.sentence(13, "of several the least number");
        WireMoney x = Make.counters(4);
        x.wire(0, 3, 4);
        x.wire(0, 2, 2);
        x.wire(2, 3, 2);
        x.wire(0, 1, 2);
        x.wire(1, 3, 2);
        x.order(0, 3, 5, 5);
        x.order(3, 0, 6, 6);
        x.down(4, 0, 50);
        x.go(10);
        Check.due("it waits at 1", x.message(0, 4), 1);
        Check.due("back it went straight", x.message(1, 5), 4);
    }

    private static void theWireOfTheFewestMinutes() {
        Check.sentence(13, "by the WIRE of the fewest MINUTES between both");
        int[][] cases = {{5, 4}, {4, 5}};
        for (int[] c : cases) {
            WireMoney x = Make.pair(0, c[0]);
            x.wire(1, 0, c[1]);
            x.order(0, 1, 5, 5);
            x.order(1, 0, 5, 5);
            x.go(20);
            Check.due("there", x.message(0, 5), 4);
            Check.due("back", x.message(1, 5), 4);
        }
    }

    private static void ofLikeWiresTheLeastNumber() {
        Check.sentence(13, "of like ones the least number");
        WireMoney x = Make.pair(0, 9);
        x.wire(0, 1, 4);
        x.wire(0, 1, 4);
        x.down(1, 0, 10);
        x.order(0, 1, 5, 5);
        x.order(1, 0, 5, 5);
        x.go(10);
        Check.due("it waits for WIRE 1", x.message(0, 4), 0);
        Check.due("the other way too", x.message(1, 4), 1);
    }

    private static void eachTimeAnew() {
        Check.sentence(13, "the WAY goes each time to that COUNTER ..");
        WireMoney x = Make.line(4, 5);
        x.order(0, 3, 5, 5);
        x.go(1);
        x.wire(1, 3, 6);
        x.go(30);
        Check.due("it turns at 1", x.message(0, 5), 11);
        WireMoney y = Make.pair(0, 30);
        y.down(0, 0, 10);
        y.order(0, 1, 5, 5);
        y.wire(0, 1, 1);
        y.go(9);
        Check.due("in a queue it stays", y.message(0, 4), 0);
    }

    private static void garbledIsRepeated() {
        Check.sentence(13, "GARBLED: a REPEAT is written to where it came from");
        WireMoney x = Make.line(3, 1);
        x.order(0, 2, 5, 5);
        x.garble(0, 8, 6);
        x.go(2);
        Check.due("at 1 it isn't READ", x.message(0, 6), 0);
        Check.due("nothing is written", x.count(4), 1);
        x.go(1);
        Check.due("at 2 it is GARBLED", x.message(0, 6), 1);
        int[] due = {3, 0, 2, 0};
        for (int what = 0; what < due.length; what++) {
            Check.due("message(1, " + what + ")", x.message(1, what), due[what]);
        }
        Check.due("not KNOWN", x.told(0, 4), 0);
        x.go(2);
        Check.due("written anew", x.message(2, 0), 0);
        Check.due("with its SUM", x.sign(2, 8), 5);
        x.go(2);
        Check.due("KNOWN", x.told(0, 4), 1);
    }

    /** A shorter WIRE comes, so that the STOP is there before the PAYMENT. */
    private static void garbledIsRepeatedIfStoppedToo() {
        Check.sentence(13, "GARBLED: a REPEAT is written (its ORDER is STOPPED)");
        WireMoney x = Make.pair(0, 5);
        x.order(0, 1, 5, 5);
        x.garble(0, 0, 9);
        x.go(1);
        x.wire(0, 1, 3);
        x.stop(0);
        x.go(20);
        Check.due("STOPPED in 4", x.message(1, 5), 4);
        Check.due("PAYMENT in 5", x.message(0, 5), 5);
        Check.due("GARBLED", x.message(0, 6), 1);
        Check.due("a STOPPED", x.message(2, 0), 2);
        Check.due("a REPEAT", x.message(3, 0), 3);
        Check.due("no PAYMENT anew", x.count(4), 4);
    }

    private static void knownIfItIsNotStopped() {
        Check.sentence(13, "One that fits: its ORDER is KNOWN there, if it isn't STOPPED");
        WireMoney x = Make.pair(0, 5);
        x.order(0, 1, 5, 5);
        x.go(1);
        x.wire(0, 1, 3);
        x.stop(0);
        x.go(20);
        Check.due("STOP in 4", x.message(1, 5), 4);
        Check.due("PAYMENT in 5", x.message(0, 5), 5);
        Check.due("it fits", x.message(0, 6), 0);
        Check.due("not KNOWN", x.told(0, 4), 0);
    }

    /** READ in 1438 and 1439: the REPEAT is READ on the DAY on which the PAYMENT is written. */
    private static void theTestOfThatDay() {
        Check.sentence(13, "the PAYMENT is written anew (with that DAY's TEST)");
        int[][] due = {{1437, 9}, {1438, 16}};
        for (int[] d : due) {
            WireMoney x = Make.until(Make.pair(0, 1), d[0]);
            x.order(0, 1, 1, 0);
            x.garble(0, 0, 9);
            x.go(3);
            Check.due("REPEAT", x.message(1, 5), d[0] + 2);
            Check.due("TEST of the first", x.sign(0, 13), 9);
            Check.due("TEST of the second", x.sign(2, 13), d[1]);
        }
    }

    private static void fitsOnTheNextDay() {
        Check.sentence(13, "d being the DAY on which the message was written");
        WireMoney x = Make.until(Make.pair(0, 1), 1439);
        x.order(0, 1, 12345, 6789);
        x.go(2);
        Check.due("READ on DAY 1", x.message(0, 5), 1440);
        Check.due("it fits", x.message(0, 6), 0);
        Check.due("KNOWN", x.told(0, 4), 1);
    }

    private static void noPaymentAnewIfStopped() {
        Check.sentence(13, "A REPEAT: .. if its ORDER isn't PAID or STOPPED (wherever that was)");
        WireMoney x = Make.pair(0, 5);
        x.order(0, 1, 5, 5);
        x.stop(0);
        x.garble(0, 0, 9);
        x.go(11);
        Check.due("STOP in 6", x.message(1, 5), 6);
        Check.due("REPEAT in 10", x.message(2, 5), 10);
        Check.due("the STOPPED isn't READ yet", x.message(3, 5), -1);
        Check.due("MESSAGES", x.count(4), 4);
        Check.due("PAYMENTS", x.told(0, 9), 1);
    }

    private static void paidBackWithoutTheFee() {
        Check.sentence(13, "A STOPPED: the SUM (not the fee) is paid back where the ORDER came from");
        WireMoney x = Make.pair(0, 1);
        x.band(500, 1000);
        x.order(0, 1, 500, 5);
        x.stop(0);
        x.go(3);
        Check.due("not paid back in 2", x.told(0, 7), 0);
        Check.due("FLOAT", x.at(0, 0), 1500);
        x.go(1);
        Check.due("paid back in 3", x.told(0, 7), 1);
        Check.due("FLOAT then", x.at(0, 0), 1000);
        Check.due("fees", x.at(0, 4), 1000);
        Check.due("the other FLOAT", x.at(1, 0), 0);
        Check.due("nothing is owed", x.at(0, 3), 0);
    }

    private static void floatMayBeBelow0() {
        Check.sentence(13, "it may be below 0 then");
        WireMoney x = Make.pair(0, 1);
        x.order(0, 1, 99999, 5);
        x.stop(0);
        x.cart(0, 1, 99999 + 999);
        x.go(10);
        Check.due("FLOAT", x.at(0, 0), -99999);
    }

    /** There are 1000 MESSAGES; those that were held are READ. */
    private static WireMoney heldOnesRead() {
        WireMoney x = Make.messages(1000);
        Make.lift(x);
        x.go(20);
        Check.due("MESSAGES", x.count(4), 1000);
        return x;
    }

    private static void thousandMessagesGarbled() {
        Check.sentence(13, "With 1000 MESSAGES no other one is written (a GARBLED one)");
        int before = Make.messages(1000).count(5);
        WireMoney x = heldOnesRead();
        Check.due("GARBLED", x.message(Make.TO_BE_GARBLED, 6), 1);
        Check.due("one more", x.count(5), before + 1);
        Check.due("not KNOWN", x.told(1, 4), 0);
    }

    private static void thousandMessagesRepeat() {
        Check.sentence(13, "With 1000 MESSAGES no other one is written (a REPEAT)");
        WireMoney x = heldOnesRead();
        Check.yes("READ", x.message(Make.REPEAT, 5) > 0);
        Check.due("PAYMENTS", x.told(0, 9), 1);
        Check.due("of the one that filled", x.told(4, 9), 497);
    }

    private static void thousandMessagesStop() {
        Check.sentence(13, "what would have written it by itself does all else (a STOP)");
        WireMoney x = heldOnesRead();
        Check.yes("READ", x.message(Make.STOP, 5) > 0);
        Check.due("STOPPED", x.told(2, 6), 1);
        Check.due("never paid back", x.told(2, 7), 0);
        Check.due("FLOAT", x.at(2, 0), 1104);
        Check.due("not paid out", x.pay(2, 2), 3);
    }

    private static void thousandMessagesKnown() {
        Check.sentence(13, "With 1000 MESSAGES no other one is written (all else goes on)");
        WireMoney x = heldOnesRead();
        Check.yes("READ", x.message(Make.FITTING_ONE, 5) > 0);
        Check.due("KNOWN", x.told(3, 4), 1);
        Check.due("paid out", x.pay(3, 4), 0);
    }
}
