/** Promise 4, down: each sentence that names a boundary, alone. */
public final class Promise04Test {
    private static final int MIN = Integer.MIN_VALUE;
    private static final int MAX = Integer.MAX_VALUE;

    public static void main(String[] args) {
        noneSuch();
        fromIsBelowNow();
        fromIsBelowNowAt0();
        fromIsBelowNowAtTheLastMinute();
        toIsNotAboveFrom();
        nothingElseIsRefused();
        downFromAMinute();
        downToAnotherOne();
        downForOneMinute();
        downUntilTheLastMinute();
        oneSpanEach();
        theOneToldLast();
        bothWaysAreDown();
        whatIsOnTheWireGoesOn();
        aWireNeverGoes();
        refusedChangesNothing();
        Check.end("Promise04Test");
    }

    private static void noneSuch() {
        Check.sentence(4, "false if there is none such");
        WireMoney none = Make.counters(2);
        Check.no("no WIRES: down(0, 5, 6)", none.down(0, 5, 6));
        WireMoney x = Make.pair(0, 1);
        Check.yes("down(0, 5, 6)", x.down(0, 5, 6));
        int[] wrong = {-1, 1, 14, 15, MIN, MAX};
        for (int w : wrong) {
            Check.no("down(" + w + ", 5, 6)", x.down(w, 5, 6));
        }
        WireMoney full = Make.full();
        Check.yes("15 WIRES: down(14, 5, 6)", full.down(14, 5, 6));
        Check.no("15 WIRES: down(15, 5, 6)", full.down(15, 5, 6));
    }

    private static void fromIsBelowNow() {
        Check.sentence(4, "false if from is below NOW");
        WireMoney x = Make.until(Make.pair(0, 1), 10);
        Check.no("down(0, 9, 20)", x.down(0, 9, 20));
        Check.no("down(0, 9, 10)", x.down(0, 9, 10));
        Check.no("down(0, -1, 20)", x.down(0, -1, 20));
        Check.no("down(0, MIN, 20)", x.down(0, MIN, 20));
        Check.yes("down(0, 10, 20)", x.down(0, 10, 20));
        Check.yes("down(0, 11, 20)", x.down(0, 11, 20));
    }

    private static void fromIsBelowNowAt0() {
        Check.sentence(4, "false if from is below NOW (0)");
        WireMoney x = Make.pair(0, 1);
        Check.no("down(0, -1, 1)", x.down(0, -1, 1));
        Check.yes("down(0, 0, 1)", x.down(0, 0, 1));
    }

    private static void fromIsBelowNowAtTheLastMinute() {
        Check.sentence(4, "false if from is below NOW (20000)");
        WireMoney x = Make.until(Make.pair(0, 1), 19999);
        Check.no("down(0, 19998, 20000)", x.down(0, 19998, 20000));
        Check.yes("down(0, 19999, 20000)", x.down(0, 19999, 20000));
        x.go(1);
        Check.no("down(0, 19999, 20000)", x.down(0, 19999, 20000));
        Check.no("down(0, 20000, 20000)", x.down(0, 20000, 20000));
    }

    private static void toIsNotAboveFrom() {
        Check.sentence(4, "false if to isn't above it");
        WireMoney x = Make.pair(0, 1);
        Check.no("down(0, 7, 7)", x.down(0, 7, 7));
        Check.no("down(0, 7, 6)", x.down(0, 7, 6));
        Check.no("down(0, 0, 0)", x.down(0, 0, 0));
        Check.no("down(0, 0, -1)", x.down(0, 0, -1));
        Check.no("down(0, 7, MIN)", x.down(0, 7, MIN));
        Check.no("down(0, MAX, MAX)", x.down(0, MAX, MAX));
        Check.no("down(0, MAX, MIN)", x.down(0, MAX, MIN));
        Check.yes("down(0, 7, 8)", x.down(0, 7, 8));
    }

    /** The promise tells no bound above, so there is none. */
    private static void nothingElseIsRefused() {
        Check.sentence(4, "A WIRE is DOWN: true; false if (three things alone)");
        WireMoney x = Make.pair(0, 1);
        Check.yes("down(0, 0, 20000)", x.down(0, 0, 20000));
        Check.yes("down(0, 0, 20001)", x.down(0, 0, 20001));
        Check.yes("down(0, 0, MAX)", x.down(0, 0, MAX));
        x.order(0, 1, 5, 5);
        x.go(2000);
        Check.due("held all the time", x.message(0, 4), 0);
    }

    /** A new ORDER from 0 to 1 in this MINUTE, which passes: where its PAYMENT is then. */
    private static int placeOfNewOne(WireMoney x) {
        int message = x.count(4);
        x.order(0, 1, 5, 5);
        x.go(1);
        return x.message(message, 4);
    }

    private static void downFromAMinute() {
        Check.sentence(4, "DOWN from a MINUTE");
        WireMoney x = Make.pair(0, 1);
        x.go(2);
        x.down(0, 3, 20000);
        Check.due("in 2 it sets out", placeOfNewOne(x), -1);
        Check.due("in 3 it doesn't", placeOfNewOne(x), 0);
        WireMoney y = Make.pair(0, 1);
        y.down(0, 0, 20000);
        Check.due("in 0 it doesn't", placeOfNewOne(y), 0);
    }

    private static void downToAnotherOne() {
        Check.sentence(4, "DOWN .. to another one (that one not)");
        WireMoney x = Make.pair(0, 1);
        x.down(0, 0, 5);
        x.order(0, 1, 5, 5);
        x.go(5);
        Check.due("not in 4", x.message(0, 4), 0);
        x.go(1);
        Check.due("in 5 it sets out", x.message(0, 4), -1);
        x.go(1);
        Check.due("so it comes in 6", x.message(0, 5), 6);
    }

    private static void downForOneMinute() {
        Check.sentence(4, "DOWN from a MINUTE to another one (one MINUTE)");
        WireMoney x = Make.pair(0, 1);
        x.down(0, 1, 2);
        Check.due("in 0 it sets out", placeOfNewOne(x), -1);
        Check.due("in 1 it doesn't", placeOfNewOne(x), 0);
        x.go(1);
        Check.due("in 2 it sets out", x.message(1, 4), -1);
    }

    private static void downUntilTheLastMinute() {
        Check.sentence(4, "DOWN .. to another one (20000)");
        WireMoney x = Make.pair(0, 1);
        x.down(0, 0, 20000);
        x.order(0, 1, 5, 5);
        Make.until(x, 20000);
        Check.due("it never sets out", x.message(0, 4), 0);
        Check.due("it is in the queue", x.at(0, 5), 1);
        WireMoney y = Make.pair(0, 1);
        y.down(0, 0, 19999);
        y.order(0, 1, 5, 5);
        Make.until(y, 20000);
        Check.due("in 19999 it sets out", y.message(0, 4), -1);
    }

    private static void oneSpanEach() {
        Check.sentence(4, "one such span each");
        WireMoney x = Make.line(3, 1);
        x.down(1, 0, 5);
        x.order(0, 1, 5, 5);
        x.order(1, 2, 5, 5);
        x.go(1);
        Check.due("WIRE 0 is up", x.message(0, 4), -1);
        Check.due("WIRE 1 is DOWN", x.message(1, 4), 1);
        x.down(0, 2, 9);
        x.go(4);
        Check.due("WIRE 1 is DOWN as before", x.message(1, 4), 1);
        x.go(1);
        Check.due("and up as before", x.message(1, 4), -1);
    }

    private static void theOneToldLast() {
        Check.sentence(4, "the one told last");
        WireMoney x = Make.pair(0, 1);
        x.down(0, 0, 5);
        x.down(0, 2, 3);
        Check.due("in 0 it is up again", placeOfNewOne(x), -1);
        Check.due("in 1 too", placeOfNewOne(x), -1);
        Check.due("in 2 it is DOWN", placeOfNewOne(x), 0);
        x.go(1);
        Check.due("in 3 it is up", x.message(2, 4), -1);
    }

    private static void bothWaysAreDown() {
        Check.sentence(4, "A WIRE is DOWN (both ways)");
        WireMoney x = Make.pair(0, 1);
        x.order(0, 1, 5, 5);
        x.order(1, 0, 5, 5);
        x.down(0, 0, 1);
        x.go(1);
        Check.due("there", x.message(0, 4), 0);
        Check.due("back", x.message(1, 4), 1);
        x.go(1);
        Check.due("there, when it is up", x.message(0, 4), -1);
        Check.due("back, when it is up", x.message(1, 4), -1);
    }

    private static void whatIsOnTheWireGoesOn() {
        Check.sentence(4, "if it isn't DOWN in this MINUTE, the first MESSAGE sets out");
        WireMoney x = Make.pair(0, 3);
        x.order(0, 1, 5, 5);
        x.go(1);
        x.down(0, 1, 20000);
        x.go(3);
        Check.due("it was on the WIRE and came", x.message(0, 5), 3);
    }

    private static void aWireNeverGoes() {
        Check.sentence(4, "A WIRE never goes");
        WireMoney x = Make.pair(0, 2);
        x.wire(0, 1, 9);
        x.down(0, 0, 20000);
        Check.due("LEAST goes by it", x.least(0, 1), 2);
        Check.due("an ORDER is taken", x.order(0, 1, 5, 5), 0);
        x.go(100);
        Check.due("it waits for it", x.message(0, 4), 0);
    }

    private static void refusedChangesNothing() {
        Check.sentence(4, "What is refused changes nothing.");
        int[][] wrong = {{-1, 30, 50}, {3, 30, 50}, {1, 20, 50}, {1, -1, 50}, {1, 30, 30},
            {1, 30, 29}, {0, 20, 30}, {0, 21, 21}, {0, 22, 21}};
        for (int[] w : wrong) {
            Refusal.due(Refusal.name("down", w), Make::busy, x -> Check.number(x.down(w[0], w[1], w[2])), 0);
        }
    }
}
