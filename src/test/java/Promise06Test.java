/** Promise 6, band: each sentence that names a boundary, alone. */
public final class Promise06Test {
    private static final int MIN = Integer.MIN_VALUE;
    private static final int MAX = Integer.MAX_VALUE;

    public static void main(String[] args) {
        boundIs1To99999();
        boundIsAboveThatAhead();
        aRefusedOneIsNotAhead();
        feeIs0To1000();
        eightCame();
        refusedChangesNothing();
        refusedWhenEightCameChangesNothing();
        Check.end("Promise06Test");
    }

    private static void boundIs1To99999() {
        Check.sentence(6, "a bound (1 .. 99999)");
        int[] right = {1, 2, 99998, 99999};
        for (int r : right) {
            WireMoney x = new WireMoney();
            Check.yes("band(" + r + ", 77)", x.band(r, 77));
            Check.due("fee of its bound", x.fee(r), 77);
        }
        int[] wrong = {0, -1, 100000, MIN, MAX};
        for (int w : wrong) {
            WireMoney x = new WireMoney();
            Check.no("band(" + w + ", 77)", x.band(w, 77));
            Check.due("fee(1)", x.fee(1), 1);
            Check.due("fee(99999)", x.fee(99999), 999);
        }
    }

    private static void boundIsAboveThatAhead() {
        Check.sentence(6, "above that ahead of it");
        WireMoney x = new WireMoney();
        Check.yes("band(100, 7)", x.band(100, 7));
        Check.no("band(100, 8)", x.band(100, 8));
        Check.no("band(99, 8)", x.band(99, 8));
        Check.no("band(1, 8)", x.band(1, 8));
        Check.yes("band(101, 9)", x.band(101, 9));
        Check.no("band(101, 10)", x.band(101, 10));
        Check.yes("band(99999, 11)", x.band(99999, 11));
        Check.no("nothing is above the largest", x.band(99999, 12));
        Check.no("nor is this a bound", x.band(100000, 12));
    }

    private static void aRefusedOneIsNotAhead() {
        Check.sentence(6, "above that ahead of it (a refused one isn't)");
        WireMoney x = new WireMoney();
        Check.yes("band(10, 1)", x.band(10, 1));
        Check.no("band(500, 1001)", x.band(500, 1001));
        Check.no("band(500, -1)", x.band(500, -1));
        Check.yes("band(11, 2)", x.band(11, 2));
    }

    private static void feeIs0To1000() {
        Check.sentence(6, "a fee (0 .. 1000)");
        int[] right = {0, 1, 999, 1000};
        for (int r : right) {
            WireMoney x = new WireMoney();
            Check.yes("band(50, " + r + ")", x.band(50, r));
            Check.due("fee(50)", x.fee(50), r);
        }
        int[] wrong = {-1, 1001, MIN, MAX};
        for (int w : wrong) {
            WireMoney x = new WireMoney();
            Check.no("band(50, " + w + ")", x.band(50, w));
            Check.due("fee(50)", x.fee(50), 1);
        }
    }

    private static void eightCame() {
        Check.sentence(6, "false if 8 came");
        WireMoney x = new WireMoney();
        for (int i = 1; i <= 7; i++) {
            Check.yes("BAND " + i, x.band(10 * i, 100 + i));
        }
        Check.yes("the eighth", x.band(80, 108));
        Check.no("the ninth", x.band(90, 109));
        Check.no("the ninth again", x.band(99999, 0));
        Check.due("in the eighth", x.fee(80), 108);
        Check.due("above it", x.fee(81), 1);
        Check.due("the first is there yet", x.fee(1), 101);
    }

    private static void refusedChangesNothing() {
        Check.sentence(6, "What is refused changes nothing.");
        int[][] wrong = {{0, 5}, {100000, 5}, {200, 5}, {199, 5}, {201, -1}, {201, 1001}, {MAX, MIN}};
        for (int[] w : wrong) {
            Refusal.due(Refusal.name("band", w), Make::busy, x -> Check.number(x.band(w[0], w[1])), 0);
        }
    }

    private static void refusedWhenEightCameChangesNothing() {
        Check.sentence(6, "What is refused changes nothing. (8 came)");
        Refusal.due("the ninth", Make::full, x -> Check.number(x.band(90, 9)), 0);
    }
}
