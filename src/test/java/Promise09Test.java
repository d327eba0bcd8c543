/** Promise 9, stop: each sentence that names a boundary, alone. */
public final class Promise09Test {
    private static final int MIN = Integer.MIN_VALUE;
    private static final int MAX = Integer.MAX_VALUE;

    public static void main(String[] args) {
        theMessagesNumber();
        writtenWhereTheOrderCameFrom();
        noSuchOrder();
        theLastOrder();
        oneWasWritten();
        oneWasWrittenAndRead();
        oneWasWrittenAndCameTooLate();
        thousandMessagesWere();
        openOrNot();
        thePayeeIsAMinuteAhead();
        thePayeeIsAMinuteBehind();
        aPaidOneCanHaveAStop();
        refusedChangesNothing();
        refusedWithThousandMessagesChangesNothing();
        Check.end("Promise09Test");
    }

    private static void theMessagesNumber() {
        Check.sentence(9, "the MESSAGE's number");
        WireMoney x = Make.pair(0, 1);
        x.order(0, 1, 5, 5);
        x.order(0, 1, 6, 6);
        Check.due("of ORDER 1", x.stop(1), 2);
        Check.due("of ORDER 0", x.stop(0), 3);
        Check.due("MESSAGES", x.count(4), 4);
    }

    private static void writtenWhereTheOrderCameFrom() {
        Check.sentence(9, "A STOP is written, where the ORDER came from");
        WireMoney x = Make.line(3, 1);
        x.order(2, 0, 5, 5);
        x.stop(0);
        int[] due = {1, 0, 2, 0, 2, -1, 0};
        for (int what = 0; what < due.length; what++) {
            Check.due("message(1, " + what + ")", x.message(1, what), due[what]);
        }
        Check.due("in the queue at once", x.at(2, 5), 2);
    }

    private static void noSuchOrder() {
        Check.sentence(9, "NONE if there is no such ORDER");
        Check.due("none at all", Make.pair(0, 1).stop(0), -1);
        WireMoney x = Make.pair(0, 1);
        x.order(0, 1, 5, 5);
        int[] wrong = {-1, 1, 199, 200, MIN, MAX};
        for (int w : wrong) {
            Check.due("stop(" + w + ")", x.stop(w), -1);
        }
        Check.due("MESSAGES", x.count(4), 1);
        Check.due("stop(0)", x.stop(0), 1);
    }

    private static void theLastOrder() {
        Check.sentence(9, "NONE if there is no such ORDER (200 came)");
        WireMoney x = Make.full();
        Check.due("stop(200)", x.stop(200), -1);
        Check.due("stop(199)", x.stop(199), 200);
    }

    private static void oneWasWritten() {
        Check.sentence(9, "NONE if one was written for it");
        WireMoney x = Make.pair(0, 5);
        x.order(0, 1, 5, 5);
        x.order(0, 1, 6, 6);
        Check.due("stop(0)", x.stop(0), 2);
        Check.due("stop(0) again", x.stop(0), -1);
        x.go(3);
        Check.due("stop(0) when it is on a WIRE", x.stop(0), -1);
        Check.due("the other ORDER has none yet", x.stop(1), 3);
    }

    private static void oneWasWrittenAndRead() {
        Check.sentence(9, "NONE if one was written for it (and was READ)");
        WireMoney x = Make.pair(0, 1);
        x.order(0, 1, 5, 5);
        x.stop(0);
        x.go(10);
        Check.due("it is paid back", x.told(0, 7), 1);
        Check.due("stop(0)", x.stop(0), -1);
        Check.due("MESSAGES", x.count(4), 3);
    }

    private static void oneWasWrittenAndCameTooLate() {
        Check.sentence(9, "NONE if one was written for it (and came too late)");
        WireMoney x = Make.pair(10, 1);
        x.order(0, 1, 5, 5);
        x.go(2);
        x.pay(0, 5);
        x.stop(0);
        x.go(5);
        Check.due("it came too late", x.count(7), 1);
        Check.due("stop(0)", x.stop(0), -1);
    }

    private static void thousandMessagesWere() {
        Check.sentence(9, "NONE if 1000 MESSAGES were");
        WireMoney x = Make.messages(999);
        Check.due("the 1000th", x.stop(3), 999);
        Check.due("MESSAGES", x.count(4), 1000);
        Check.due("no other one", x.stop(0), -1);
        Check.due("MESSAGES then", x.count(4), 1000);
    }

    private static void openOrNot() {
        Check.sentence(9, "A STOP is written (no COUNTER need be OPEN)");
        WireMoney x = new WireMoney();
        x.counter(0, 0, 1);
        x.counter(0, 0, 1);
        x.wire(0, 1, 1);
        x.order(0, 1, 5, 5);
        x.go(1);
        Check.due("stop(0)", x.stop(0), 1);
        x.go(10);
        Check.due("it is STOPPED", x.told(0, 6), 1);
        Check.due("it is paid back", x.told(0, 7), 1);
    }

    /** The STOP of both races is READ in MINUTE 4, the PAYMENT in 3. */
    private static WireMoney race() {
        WireMoney x = Make.pair(10, 3);
        x.order(0, 1, 5, 5);
        x.stop(0);
        x.go(4);
        return x;
    }

    private static void thePayeeIsAMinuteAhead() {
        Check.sentence(9, "A STOP: .. else it came too late");
        WireMoney x = race();
        Check.due("pay at 4, which has yet to pass", x.pay(0, 5), 0);
        x.go(1);
        Check.due("the STOP was READ", x.message(1, 5), 4);
        Check.due("too late", x.count(7), 1);
        Check.due("not STOPPED", x.told(0, 6), 0);
        Check.due("no STOPPED is written", x.count(4), 2);
        x.go(20);
        Check.due("nothing is paid back", x.told(0, 7), 0);
        Check.due("FLOAT", x.at(0, 0), 16);
    }

    private static void thePayeeIsAMinuteBehind() {
        Check.sentence(9, "A STOP: if the ORDER isn't PAID, it is STOPPED");
        WireMoney x = race();
        x.go(1);
        Check.due("pay at 5", x.pay(0, 5), 3);
        Check.due("STOPPED", x.told(0, 6), 1);
        Check.due("none was too late", x.count(7), 0);
        Check.due("a STOPPED is written back", x.message(2, 0), 2);
        Check.due("from there", x.message(2, 2), 1);
        Check.due("to where it came from", x.message(2, 3), 0);
        Check.due("not paid back yet", x.told(0, 7), 0);
        x.go(3);
        Check.due("paid back", x.told(0, 7), 1);
        Check.due("the SUM, not the fee", x.at(0, 0), 11);
    }

    private static void aPaidOneCanHaveAStop() {
        Check.sentence(9, "NONE if (a PAID one isn't among them)");
        WireMoney x = Make.pair(10, 1);
        x.order(0, 1, 5, 5);
        x.go(2);
        x.pay(0, 5);
        Check.due("stop(0)", x.stop(0), 1);
    }

    private static void refusedChangesNothing() {
        Check.sentence(9, "What is refused changes nothing.");
        int[] wrong = {-1, 7, 200, MIN, MAX, 1, 5};
        for (int w : wrong) {
            Refusal.due("stop(" + w + ")", Make::busy, x -> x.stop(w), -1);
        }
    }

    private static void refusedWithThousandMessagesChangesNothing() {
        Check.sentence(9, "What is refused changes nothing. (1000 MESSAGES)");
        Refusal.due("stop(3)", () -> Make.messages(1000), x -> x.stop(3), -1);
    }
}
