/** Promises 1 to 5: a new object, counter, wire, down, least; and the WAY that messages go. */
public final class NetTest {
    private static final int MIN = Integer.MIN_VALUE;
    private static final int MAX = Integer.MAX_VALUE;

    public static void main(String[] args) {
        aNewObject();
        counters();
        tenCounters();
        wires();
        fifteenWires();
        downs();
        downWireHoldsItsQueue();
        lastToldSpanHolds();
        leastMinutes();
        leastFallsWithNewWires();
        wayTakesLeastNumber();
        wayTakesFewestMinutesThenLeastNumber();
        newWireTurnsMessagesOnTheirWay();
        Check.end("NetTest");
    }

    private static void aNewObject() {
        WireMoney x = new WireMoney();
        Check.due("NONE", WireMoney.NONE, -1);
        for (int what = 0; what <= 7; what++) {
            Check.due("new: count(" + what + ")", x.count(what), 0);
        }
        Check.due("new: at(0, 0)", x.at(0, 0), MIN);
        Check.due("new: least(0, 0)", x.least(0, 0), -1);
        Check.due("new: wire(0, 1, 1)", x.wire(0, 1, 1), -1);
        Check.due("new: order(0, 1, 1, 1)", x.order(0, 1, 1, 1), -1);
        Check.due("new: stop(0)", x.stop(0), -1);
        Check.due("new: pay(0, 0)", x.pay(0, 0), 1);
        Check.no("new: garble(0, 0, 1)", x.garble(0, 0, 1));
        Check.due("new: go(0)", x.go(0), 0);
        Check.due("new: fee(250)", x.fee(250), 2);
        x.counter(5, 0, 1440);
        Check.due("objects share nothing", new WireMoney().count(1), 0);
    }

    private static void counters() {
        WireMoney x = new WireMoney();
        int[][] wrong = {{-1, 0, 1}, {1000001, 0, 1}, {MIN, 0, 1}, {MAX, 0, 1}, {0, -1, 5},
            {0, 0, 1441}, {0, 5, 5}, {0, 6, 5}, {0, 1440, 1440}, {0, 0, 0}, {0, MIN, MAX},
            {0, 0, MAX}, {0, MIN, 0}, {0, MAX, MIN}, {0, 1440, 1441}};
        for (int[] w : wrong) {
            Check.due("counter" + java.util.Arrays.toString(w), x.counter(w[0], w[1], w[2]), -1);
        }
        Check.due("none came", x.count(1), 0);
        Check.due("counter(0, 0, 1)", x.counter(0, 0, 1), 0);
        Check.due("counter(1000000, 1439, 1440)", x.counter(1000000, 1439, 1440), 1);
        Check.due("first float", x.at(0, 0), 0);
        Check.due("second float", x.at(1, 0), 1000000);
        Check.due("open at 0", x.at(0, 1), 1);
        Check.due("not open yet", x.at(1, 1), 0);
        x.go(1);
        Check.due("shut at its TIME", x.at(0, 1), 0);
        x.go(1438);
        Check.due("open in the last minute of the day", x.at(1, 1), 1);
        x.go(1);
        Check.due("shut at the day's end", x.at(1, 1), 0);
        Check.due("open on the next day", x.at(0, 1), 1);
    }

    private static void tenCounters() {
        WireMoney x = new WireMoney();
        for (int i = 0; i < 10; i++) {
            Check.due("counter " + i, x.counter(i, 0, 1440), i);
        }
        Check.due("the eleventh", x.counter(1, 0, 1440), -1);
        Check.due("ten of them", x.count(1), 10);
        Check.due("the last one's float", x.at(9, 0), 9);
        Check.due("wire to the last one", x.wire(9, 0, 60), 0);
        Check.due("wire behind it", x.wire(10, 0, 60), -1);
    }

    private static void wires() {
        WireMoney x = new WireMoney();
        x.counter(0, 0, 1440);
        x.counter(0, 0, 1440);
        int[][] wrong = {{0, 2, 1}, {2, 0, 1}, {-1, 0, 1}, {0, -1, 1}, {0, 0, 1}, {1, 1, 1},
            {0, 1, 0}, {0, 1, 61}, {0, 1, -1}, {0, 1, MIN}, {0, 1, MAX}, {MIN, MAX, 1}};
        for (int[] w : wrong) {
            Check.due("wire" + java.util.Arrays.toString(w), x.wire(w[0], w[1], w[2]), -1);
        }
        Check.due("none came", x.count(2), 0);
        Check.due("no way came", x.least(0, 1), -1);
        Check.due("wire(1, 0, 60)", x.wire(1, 0, 60), 0);
        Check.due("wire(0, 1, 1)", x.wire(0, 1, 1), 1);
        Check.due("two of them", x.count(2), 2);
    }

    private static void fifteenWires() {
        WireMoney x = new WireMoney();
        x.counter(0, 0, 1440);
        x.counter(0, 0, 1440);
        for (int i = 0; i < 15; i++) {
            Check.due("wire " + i, x.wire(0, 1, 20 - i), i);
        }
        Check.due("the sixteenth", x.wire(0, 1, 1), -1);
        Check.due("fifteen of them", x.count(2), 15);
        Check.due("it shortens nothing", x.least(0, 1), 6);
        Check.yes("the last one goes down", x.down(14, 0, 1));
        Check.no("there is none behind it", x.down(15, 0, 1));
    }

    private static WireMoney pair(int minutes) {
        WireMoney x = new WireMoney();
        x.counter(1000, 0, 1440);
        x.counter(1000, 0, 1440);
        x.wire(0, 1, minutes);
        return x;
    }

    private static void downs() {
        WireMoney x = pair(1);
        x.go(10);
        int[][] wrong = {{1, 10, 11}, {-1, 10, 11}, {MIN, 10, 11}, {MAX, 10, 11}, {0, 9, 11},
            {0, 10, 10}, {0, 10, 9}, {0, MIN, 11}, {0, 12, MIN}, {0, MAX, MAX}, {0, MAX, MIN}};
        for (int[] w : wrong) {
            Check.no("down" + java.util.Arrays.toString(w), x.down(w[0], w[1], w[2]));
        }
        x.order(0, 1, 5, 5);
        x.go(1);
        Check.due("it was never down", x.message(0, 4), -1);
        Check.yes("down from NOW", x.down(0, 11, 12));
        Check.yes("down to the last MINUTE", x.down(0, 11, 20000));
    }

    private static void downWireHoldsItsQueue() {
        WireMoney x = pair(3);
        x.order(0, 1, 5, 5);
        x.order(1, 0, 6, 6);
        x.down(0, 1, 4);
        x.go(1);
        Check.due("it set out before", x.message(0, 4), -1);
        Check.due("both ways at once", x.message(1, 4), -1);
        x.order(0, 1, 7, 7);
        x.order(1, 0, 8, 8);
        x.go(3);
        Check.due("held in minutes 1 to 3", x.at(0, 5), 1);
        Check.due("held the other way too", x.at(1, 5), 1);
        Check.due("what is on the wire goes on", x.message(0, 5), 3);
        Check.due("and the other way", x.message(1, 5), 3);
        Check.due("those held are where they were as others came", x.message(2, 4), 0);
        Check.due("the other way as well", x.message(3, 4), 1);
        x.go(1);
        Check.due("up in minute 4", x.at(0, 5), 0);
        Check.due("up the other way", x.at(1, 5), 0);
        x.go(2);
        Check.due("not there yet", x.message(2, 5), -1);
        x.go(1);
        Check.due("there three minutes later", x.message(2, 5), 7);
        Check.due("the one READ before stays READ", x.message(0, 5), 3);
        Check.due("and stays there", x.message(0, 4), 1);
    }

    private static void lastToldSpanHolds() {
        WireMoney x = pair(1);
        x.order(0, 1, 5, 5);
        x.down(0, 0, 100);
        x.down(0, 50, 60);
        x.go(1);
        Check.due("the first span is gone", x.message(0, 4), -1);
        x.go(49);
        x.order(0, 1, 5, 5);
        Check.no("a refused one changes nothing", x.down(0, 49, 51));
        x.go(10);
        Check.due("the second span held", x.message(1, 4), 0);
        x.go(1);
        Check.due("up at its end", x.message(1, 4), -1);
    }

    private static void leastMinutes() {
        WireMoney x = new WireMoney();
        for (int i = 0; i < 5; i++) {
            x.counter(0, 0, 1440);
        }
        x.wire(0, 1, 10);
        x.wire(1, 2, 10);
        x.wire(3, 4, 60);
        Check.due("one wire", x.least(0, 1), 10);
        Check.due("the other way", x.least(1, 0), 10);
        Check.due("two wires", x.least(0, 2), 20);
        Check.due("back", x.least(2, 0), 20);
        Check.due("no way", x.least(0, 3), -1);
        Check.due("no way back", x.least(4, 2), -1);
        Check.due("apart from them", x.least(3, 4), 60);
        Check.due("to itself", x.least(2, 2), 0);
        int[][] wrong = {{-1, 0}, {0, -1}, {5, 0}, {0, 5}, {5, 5}, {MIN, 0}, {0, MAX}};
        for (int[] w : wrong) {
            Check.due("least" + java.util.Arrays.toString(w), x.least(w[0], w[1]), -1);
        }
        x.down(0, 0, 20000);
        Check.due("a DOWN wire counts all the same", x.least(0, 1), 10);
    }

    private static void leastFallsWithNewWires() {
        WireMoney x = new WireMoney();
        for (int i = 0; i < 10; i++) {
            x.counter(0, 0, 1440);
        }
        for (int i = 0; i < 9; i++) {
            x.wire(i, i + 1, 60);
        }
        Check.due("all along", x.least(0, 9), 540);
        x.wire(9, 0, 60);
        Check.due("a ring", x.least(0, 9), 60);
        Check.due("half of the ring", x.least(2, 7), 300);
        x.wire(2, 7, 1);
        Check.due("across", x.least(1, 8), 121);
        Check.due("across by half", x.least(3, 6), 121);
        Check.due("around", x.least(0, 8), 120);
    }

    /** From 0 to 3 by 1 and by 2 alike: the message goes by 1, whichever wire came first. */
    private static void wayTakesLeastNumber() {
        WireMoney x = new WireMoney();
        for (int i = 0; i < 4; i++) {
            x.counter(100, 0, 1440);
        }
        x.wire(0, 2, 1);
        x.wire(2, 3, 2);
        x.wire(0, 1, 2);
        x.wire(1, 3, 1);
        x.wire(0, 3, 4);
        Check.due("LEAST", x.least(0, 3), 3);
        x.order(0, 3, 5, 5);
        x.down(3, 0, 20);
        x.go(5);
        Check.due("it went by counter 1", x.message(0, 4), 1);
        Check.due("and waits there", x.at(1, 5), 1);
        x.go(20);
        x.order(3, 0, 5, 5);
        x.down(2, 25, 40);
        x.go(10);
        Check.due("the other way by counter 1 too", x.message(1, 4), 1);
    }

    private static void wayTakesFewestMinutesThenLeastNumber() {
        WireMoney x = new WireMoney();
        x.counter(100, 0, 1440);
        x.counter(100, 0, 1440);
        x.wire(0, 1, 9);
        x.wire(1, 0, 2);
        x.wire(0, 1, 2);
        x.order(0, 1, 5, 5);
        x.order(1, 0, 5, 5);
        x.down(1, 0, 10);
        x.go(10);
        Check.due("it waits for wire 1", x.message(0, 4), 0);
        Check.due("the other way too", x.message(1, 4), 1);
        x.go(3);
        Check.due("it took two minutes", x.message(0, 5), 12);
        Check.due("the other way as well", x.message(1, 5), 12);
    }

    private static void newWireTurnsMessagesOnTheirWay() {
        WireMoney x = new WireMoney();
        for (int i = 0; i < 4; i++) {
            x.counter(100, 0, 1440);
        }
        x.wire(0, 1, 5);
        x.wire(1, 2, 5);
        x.wire(2, 3, 5);
        x.order(0, 3, 5, 5);
        x.go(1);
        x.wire(1, 3, 7);
        x.wire(0, 3, 4);
        x.go(20);
        Check.due("from counter 1 it goes by the new wire", x.message(0, 5), 12);
        x.down(4, 21, 60);
        x.order(0, 3, 5, 5);
        x.wire(0, 3, 1);
        x.go(9);
        Check.due("one in a queue stays in it", x.message(1, 4), 0);
        x.order(1, 3, 5, 5);
        x.go(1);
        x.wire(2, 0, 1);
        x.go(10);
        Check.due("by counter 0 it is 6, not 7", x.message(2, 5), 36);
    }
}
