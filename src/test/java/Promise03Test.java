/** Promise 3, wire: each sentence that names a boundary, alone. */
public final class Promise03Test {
    private static final int MIN = Integer.MIN_VALUE;
    private static final int MAX = Integer.MAX_VALUE;

    public static void main(String[] args) {
        numbersAsTheyCome();
        noSuchCounter();
        bothAreOne();
        minutesAre1To60();
        aMessageTakesOneMinute();
        aMessageTakesSixtyMinutes();
        fifteenCame();
        joinedByMore();
        refusedChangesNothing();
        refusedWhenFifteenCameChangesNothing();
        Check.end("Promise03Test");
    }

    private static void numbersAsTheyCome() {
        Check.sentence(3, "A WIRE comes: its number");
        WireMoney x = Make.counters(3);
        Check.due("the first", x.wire(0, 1, 5), 0);
        Check.due("a refused one", x.wire(0, 0, 5), -1);
        Check.due("the second", x.wire(2, 1, 5), 1);
        Check.due("WIRES", x.count(2), 2);
    }

    private static void noSuchCounter() {
        Check.sentence(3, "NONE if there is no such COUNTER");
        WireMoney one = Make.counters(1);
        Check.due("one COUNTER: wire(0, 1, 5)", one.wire(0, 1, 5), -1);
        Check.due("one COUNTER: wire(1, 0, 5)", one.wire(1, 0, 5), -1);
        WireMoney x = Make.counters(10);
        int[][] wrong = {{-1, 0}, {0, -1}, {10, 0}, {0, 10}, {9, 10}, {MIN, 0}, {0, MIN}, {MAX, 0},
            {0, MAX}, {-1, 10}};
        for (int[] w : wrong) {
            Check.due(Refusal.name("wire", w), x.wire(w[0], w[1], 5), -1);
        }
        Check.due("WIRES", x.count(2), 0);
        Check.due("the first and the last one", x.wire(0, 9, 5), 0);
        Check.due("the last and the first one", x.wire(9, 0, 5), 1);
    }

    private static void bothAreOne() {
        Check.sentence(3, "NONE if both are one");
        WireMoney x = Make.counters(2);
        Check.due("wire(0, 0, 5)", x.wire(0, 0, 5), -1);
        Check.due("wire(1, 1, 5)", x.wire(1, 1, 5), -1);
        Check.due("wire(1, 0, 5)", x.wire(1, 0, 5), 0);
    }

    private static void minutesAre1To60() {
        Check.sentence(3, "NONE if it can't take so long (1 .. 60)");
        int[] right = {1, 2, 59, 60};
        for (int r : right) {
            WireMoney x = Make.counters(2);
            Check.due("wire(0, 1, " + r + ")", x.wire(0, 1, r), 0);
            Check.due("LEAST", x.least(0, 1), r);
        }
        int[] wrong = {0, -1, 61, MIN, MAX};
        for (int w : wrong) {
            WireMoney x = Make.counters(2);
            Check.due("wire(0, 1, " + w + ")", x.wire(0, 1, w), -1);
            Check.due("LEAST", x.least(0, 1), -1);
        }
    }

    private static void aMessageTakesOneMinute() {
        Check.sentence(3, "how many MINUTES a message takes (1)");
        WireMoney x = Make.pair(0, 1);
        x.order(0, 1, 5, 5);
        x.go(1);
        Check.due("it set out in 0", x.message(0, 4), -1);
        x.go(1);
        Check.due("it came in 1", x.message(0, 5), 1);
    }

    private static void aMessageTakesSixtyMinutes() {
        Check.sentence(3, "how many MINUTES a message takes (60)");
        WireMoney x = Make.pair(0, 60);
        x.order(0, 1, 5, 5);
        x.go(60);
        Check.due("it didn't come before 60", x.message(0, 5), -1);
        x.go(1);
        Check.due("it came in 60", x.message(0, 5), 60);
    }

    private static void fifteenCame() {
        Check.sentence(3, "NONE if 15 came");
        WireMoney x = Make.counters(2);
        for (int i = 0; i < 14; i++) {
            x.wire(0, 1, 20);
        }
        Check.due("the fifteenth", x.wire(0, 1, 10), 14);
        Check.due("the sixteenth", x.wire(0, 1, 1), -1);
        Check.due("the sixteenth again", x.wire(1, 0, 1), -1);
        Check.due("WIRES", x.count(2), 15);
        Check.due("LEAST by the fifteenth", x.least(0, 1), 10);
    }

    private static void joinedByMore() {
        Check.sentence(3, "two may be joined by more");
        WireMoney x = Make.counters(2);
        Check.due("the first", x.wire(0, 1, 5), 0);
        Check.due("a like one", x.wire(0, 1, 5), 1);
        Check.due("the other way round", x.wire(1, 0, 5), 2);
    }

    private static void refusedChangesNothing() {
        Check.sentence(3, "What is refused changes nothing.");
        int[][] wrong = {{-1, 0, 1}, {0, 3, 1}, {3, 0, 1}, {0, 0, 1}, {0, 2, 0}, {0, 2, -1},
            {0, 2, 61}, {0, 2, MIN}};
        for (int[] w : wrong) {
            Refusal.due(Refusal.name("wire", w), Make::busy, x -> x.wire(w[0], w[1], w[2]), -1);
        }
    }

    private static void refusedWhenFifteenCameChangesNothing() {
        Check.sentence(3, "What is refused changes nothing. (15 came)");
        Refusal.due("the sixteenth", Make::full, x -> x.wire(0, 9, 1), -1);
    }
}
