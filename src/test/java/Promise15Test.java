/** Promise 15, message: each sentence that names a boundary, alone. */
public final class Promise15Test {
    private static final int MIN = Integer.MIN_VALUE;
    private static final int MAX = Integer.MAX_VALUE;

    public static void main(String[] args) {
        noneSuch();
        theThousandth();
        noneForOthers();
        itsKind();
        itsOrder();
        fromAndTo();
        whereItIs();
        theMinuteOfReading();
        theLastMinuteOfReading();
        garbledAsItWasRead();
        looksChangeNothing();
        Check.end("Promise15Test");
    }

    private static void noneSuch() {
        Check.sentence(15, "NONE if there is none such");
        WireMoney x = Make.pair(0, 1);
        Check.due("none at all", x.message(0, 0), -1);
        x.order(0, 1, 5, 5);
        int[] wrong = {-1, 1, 999, 1000, MIN, MAX};
        for (int w : wrong) {
            for (int what = 0; what <= 6; what++) {
                Check.due("message(" + w + ", " + what + ")", x.message(w, what), -1);
            }
        }
        Check.due("message(0, 0)", x.message(0, 0), 0);
    }

    private static void theThousandth() {
        Check.sentence(15, "MESSAGES have numbers as they come, at most 1000");
        WireMoney x = Make.messages(1000);
        Check.due("the last one's kind", x.message(999, 0), 3);
        Check.due("the last one's ORDER", x.message(999, 1), 4);
        Check.due("there is none behind it", x.message(1000, 0), -1);
        x.go(100);
        Check.due("nor later", x.message(1000, 0), -1);
    }

    private static void noneForOthers() {
        Check.sentence(15, "NONE for others");
        WireMoney x = Make.pair(0, 1);
        x.order(0, 1, 5, 5);
        x.go(5);
        int[] wrong = {-1, 7, 8, MIN, MAX};
        for (int w : wrong) {
            Check.due("message(0, " + w + ")", x.message(0, w), -1);
        }
        int[] due = {0, 0, 0, 1, 1, 1, 0};
        for (int what = 0; what < due.length; what++) {
            Check.due("message(0, " + what + ")", x.message(0, what), due[what]);
        }
    }

    private static void itsKind() {
        Check.sentence(15, "0 its kind: PAYMENTS (0), STOPS (1), STOPPED (2), REPEATS (3)");
        WireMoney x = Make.pair(0, 3);
        x.order(0, 1, 5, 5);
        x.garble(0, 0, 9);
        x.go(1);
        x.order(0, 1, 5, 5);
        x.stop(1);
        x.go(20);
        int[] kinds = {0, 0, 1, 3, 2, 0};
        for (int message = 0; message < kinds.length; message++) {
            Check.due("message(" + message + ", 0)", x.message(message, 0), kinds[message]);
        }
    }

    private static void itsOrder() {
        Check.sentence(15, "1 its ORDER (0 .. 199)");
        WireMoney x = Make.full();
        x.stop(0);
        Check.due("the first", x.message(0, 1), 0);
        Check.due("the last", x.message(199, 1), 199);
        Check.due("a STOP", x.message(200, 1), 0);
    }

    private static void fromAndTo() {
        Check.sentence(15, "2 from, 3 to which COUNTER");
        WireMoney x = Make.line(10, 1);
        x.order(9, 0, 5, 5);
        x.garble(0, 0, 9);
        x.stop(0);
        x.go(30);
        int[][] due = {{9, 0}, {9, 0}, {0, 9}, {0, 9}};
        Check.due("MESSAGES", x.count(4), 4);
        for (int message = 0; message < due.length; message++) {
            Check.due("from", x.message(message, 2), due[message][0]);
            Check.due("to", x.message(message, 3), due[message][1]);
        }
    }

    private static void whereItIs() {
        Check.sentence(15, "4 where it is (in a queue, where it was READ; on a WIRE: NONE)");
        WireMoney x = Make.line(3, 2);
        x.down(1, 0, 4);
        x.order(2, 0, 5, 5);
        int[] places = {2, 2, 2, 2, 2, -1, -1, -1, -1, 0, 0};
        for (int minute = 0; minute < places.length; minute++) {
            Check.due("at " + minute, x.message(0, 4), places[minute]);
            x.go(1);
        }
        WireMoney y = Make.line(3, 2);
        y.down(0, 0, 4);
        y.order(2, 0, 5, 5);
        int[] waits = {2, -1, -1, 1, 1, -1, -1, 0, 0};
        for (int minute = 0; minute < waits.length; minute++) {
            Check.due("at " + minute + ", the other one DOWN", y.message(0, 4), waits[minute]);
            y.go(1);
        }
    }

    private static void theMinuteOfReading() {
        Check.sentence(15, "5 the MINUTE at which it was READ (NONE)");
        WireMoney x = Make.line(3, 1);
        x.order(0, 2, 5, 5);
        int[] due = {-1, -1, -1, 2, 2};
        for (int minute = 0; minute < due.length; minute++) {
            Check.due("at " + minute, x.message(0, 5), due[minute]);
            x.go(1);
        }
    }

    private static void theLastMinuteOfReading() {
        Check.sentence(15, "5 the MINUTE at which it was READ (19999)");
        WireMoney x = Make.until(Make.pair(0, 1), 19998);
        x.order(0, 1, 5, 5);
        x.go(1);
        x.order(0, 1, 5, 5);
        x.go(1);
        Check.due("READ in 19999", x.message(0, 5), 19999);
        Check.due("never READ", x.message(1, 5), -1);
    }

    private static void garbledAsItWasRead() {
        Check.sentence(15, "6 whether it was GARBLED as it was READ");
        WireMoney x = Make.pair(0, 2);
        x.order(0, 1, 5, 5);
        x.order(0, 1, 5, 5);
        x.garble(0, 0, 9);
        Check.due("in its queue", x.message(0, 6), 0);
        x.go(2);
        Check.due("on its WIRE", x.message(0, 6), 0);
        x.go(1);
        Check.due("as it was READ", x.message(0, 6), 1);
        x.go(10);
        Check.due("afterwards", x.message(0, 6), 1);
        Check.due("the other one", x.message(1, 6), 0);
        Check.due("the REPEAT", x.message(2, 6), 0);
        Check.due("the PAYMENT anew", x.message(3, 6), 0);
    }

    private static void looksChangeNothing() {
        Check.sentence(15, "What is refused changes nothing.");
        int[][] wrong = {{-1, 0}, {10, 0}, {0, -1}, {0, 7}, {MIN, MAX}};
        for (int[] w : wrong) {
            Refusal.due(Refusal.name("message", w), Make::busy, x -> x.message(w[0], w[1]), -1);
        }
    }
}
