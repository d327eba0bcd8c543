/** Promise 5, least: each sentence that names a boundary, alone. */
public final class Promise05Test {
    private static final int MIN = Integer.MIN_VALUE;
    private static final int MAX = Integer.MAX_VALUE;

    public static void main(String[] args) {
        noneSuch();
        noWay();
        aWayComesWithItsLastWire();
        toItself();
        theLeastSumIsOneMinute();
        theLargestSum();
        ofTwoWiresTheShorter();
        byMoreWiresOrStraight();
        bothWaysAlike();
        looksChangeNothing();
        Check.end("Promise05Test");
    }

    private static void noneSuch() {
        Check.sentence(5, "NONE if there is none such");
        Check.due("no COUNTERS", new WireMoney().least(0, 0), -1);
        WireMoney x = Make.line(10, 5);
        Check.due("least(0, 9)", x.least(0, 9), 45);
        int[][] wrong = {{-1, 0}, {0, -1}, {10, 0}, {0, 10}, {10, 10}, {-1, -1}, {MIN, 0}, {0, MIN},
            {MAX, 0}, {0, MAX}, {MIN, MIN}, {MAX, MAX}};
        for (int[] w : wrong) {
            Check.due(Refusal.name("least", w), x.least(w[0], w[1]), -1);
        }
    }

    private static void noWay() {
        Check.sentence(5, "NONE if there is no way");
        WireMoney x = Make.counters(4);
        Check.due("no WIRES", x.least(0, 1), -1);
        x.wire(0, 1, 5);
        x.wire(2, 3, 5);
        int[][] apart = {{0, 2}, {0, 3}, {1, 2}, {1, 3}, {2, 0}, {3, 0}, {2, 1}, {3, 1}};
        for (int[] a : apart) {
            Check.due(Refusal.name("least", a), x.least(a[0], a[1]), -1);
        }
    }

    private static void aWayComesWithItsLastWire() {
        Check.sentence(5, "NONE if there is no way (until there is)");
        WireMoney x = Make.counters(4);
        x.wire(0, 1, 5);
        x.wire(2, 3, 7);
        Check.due("not yet", x.least(0, 3), -1);
        x.wire(1, 2, 6);
        Check.due("all three", x.least(0, 3), 18);
        x.counter(0, 0, 1440);
        Check.due("none to a new COUNTER", x.least(0, 4), -1);
        Check.due("none from a new COUNTER", x.least(4, 0), -1);
    }

    /** No WIRE is needed; the promise refuses only what isn't there. */
    private static void toItself() {
        Check.sentence(5, "the least sum of MINUTES by WIRES (of none)");
        WireMoney x = Make.counters(2);
        Check.due("without WIRES", x.least(1, 1), 0);
        x.wire(0, 1, 1);
        Check.due("with one", x.least(0, 0), 0);
    }

    private static void theLeastSumIsOneMinute() {
        Check.sentence(5, "the least sum of MINUTES by WIRES (1)");
        WireMoney x = Make.pair(0, 1);
        Check.due("least(0, 1)", x.least(0, 1), 1);
    }

    private static void theLargestSum() {
        Check.sentence(5, "the least sum of MINUTES by WIRES (nine of 60)");
        WireMoney x = Make.line(10, 60);
        Check.due("least(0, 9)", x.least(0, 9), 540);
        Check.due("least(9, 0)", x.least(9, 0), 540);
        Check.due("least(0, 8)", x.least(0, 8), 480);
    }

    private static void ofTwoWiresTheShorter() {
        Check.sentence(5, "the least sum (two are joined by more)");
        WireMoney x = Make.pair(0, 9);
        x.wire(0, 1, 8);
        Check.due("the later one is shorter", x.least(0, 1), 8);
        x.wire(1, 0, 10);
        Check.due("a longer one changes nothing", x.least(0, 1), 8);
    }

    private static void byMoreWiresOrStraight() {
        Check.sentence(5, "the least sum (straight, or by others)");
        int[][] cases = {{9, 9}, {10, 10}, {11, 10}};
        for (int[] c : cases) {
            WireMoney x = Make.line(3, 5);
            x.wire(0, 2, c[0]);
            Check.due("5 and 5, or " + c[0], x.least(0, 2), c[1]);
            WireMoney y = Make.counters(3);
            y.wire(0, 2, c[0]);
            y.wire(0, 1, 5);
            y.wire(1, 2, 5);
            Check.due("the same, the straight one first", y.least(0, 2), c[1]);
        }
    }

    private static void bothWaysAlike() {
        Check.sentence(5, "LEAST of two COUNTERS");
        WireMoney x = Make.full();
        for (int a = 0; a < 10; a++) {
            for (int b = 0; b < a; b++) {
                Check.due("of " + a + " and " + b, x.least(a, b), x.least(b, a));
            }
        }
    }

    private static void looksChangeNothing() {
        Check.sentence(5, "What is refused changes nothing.");
        int[][] wrong = {{-1, 0}, {0, -1}, {3, 0}, {0, 3}, {MIN, MAX}};
        for (int[] w : wrong) {
            Refusal.due(Refusal.name("least", w), Make::busy, x -> x.least(w[0], w[1]), -1);
        }
    }
}
