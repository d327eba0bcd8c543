/** Promise 7, fee: each sentence that names a boundary, alone. */
public final class Promise07Test {
    private static final int MIN = Integer.MIN_VALUE;
    private static final int MAX = Integer.MAX_VALUE;

    public static void main(String[] args) {
        noneSuch();
        noneSuchWithBands();
        boundIsNotBelowTheSum();
        theFirstOfSeveral();
        aFeeOfNothing();
        aHundredthCut();
        oneAtLeast();
        aboveAllBounds();
        ordersTakeIt();
        looksChangeNothing();
        Check.end("Promise07Test");
    }

    private static void due(WireMoney x, int sum, int fee) {
        Check.due("fee(" + sum + ")", x.fee(sum), fee);
    }

    private static void noneSuch() {
        Check.sentence(7, "NONE if there is none such (1 .. 99999)");
        WireMoney x = new WireMoney();
        due(x, 0, -1);
        due(x, 1, 1);
        due(x, 99999, 999);
        due(x, 100000, -1);
        due(x, -1, -1);
        due(x, MIN, -1);
        due(x, MAX, -1);
    }

    private static void noneSuchWithBands() {
        Check.sentence(7, "NONE if there is none such (with BANDS)");
        WireMoney x = new WireMoney();
        x.band(1, 5);
        x.band(99999, 6);
        due(x, 0, -1);
        due(x, 1, 5);
        due(x, 99999, 6);
        due(x, 100000, -1);
        due(x, MIN, -1);
        due(x, MAX, -1);
    }

    private static void boundIsNotBelowTheSum() {
        Check.sentence(7, "of the first BAND whose bound isn't below the SUM");
        WireMoney x = new WireMoney();
        x.band(350, 40);
        due(x, 1, 40);
        due(x, 349, 40);
        due(x, 350, 40);
        due(x, 351, 3);
    }

    private static void theFirstOfSeveral() {
        Check.sentence(7, "of the first BAND (of several)");
        WireMoney x = new WireMoney();
        for (int i = 1; i <= 8; i++) {
            x.band(10 * i, 200 - i);
        }
        for (int i = 1; i <= 8; i++) {
            due(x, 10 * i - 9, 200 - i);
            due(x, 10 * i, 200 - i);
        }
        due(x, 81, 1);
    }

    private static void aFeeOfNothing() {
        Check.sentence(7, "of the first BAND (its fee is 0)");
        WireMoney x = new WireMoney();
        x.band(500, 0);
        due(x, 1, 0);
        due(x, 500, 0);
        due(x, 501, 5);
    }

    private static void aHundredthCut() {
        Check.sentence(7, "a hundredth of the SUM (cut)");
        WireMoney x = new WireMoney();
        due(x, 199, 1);
        due(x, 200, 2);
        due(x, 299, 2);
        due(x, 300, 3);
        due(x, 99899, 998);
        due(x, 99900, 999);
        due(x, 99999, 999);
    }

    private static void oneAtLeast() {
        Check.sentence(7, "1 at least");
        WireMoney x = new WireMoney();
        due(x, 1, 1);
        due(x, 99, 1);
        due(x, 100, 1);
    }

    private static void aboveAllBounds() {
        Check.sentence(7, "above all bounds");
        WireMoney x = new WireMoney();
        x.band(10, 7);
        x.band(20, 9);
        due(x, 20, 9);
        due(x, 21, 1);
        due(x, 99999, 999);
    }

    private static void ordersTakeIt() {
        Check.sentence(7, "The FEE of a SUM (as an ORDER takes it)");
        WireMoney x = Make.pair(0, 1);
        x.order(0, 1, 350, 0);
        x.band(350, 1000);
        x.order(0, 1, 350, 0);
        x.order(0, 1, 351, 0);
        Check.due("before the BAND", x.told(0, 3), 3);
        Check.due("at its bound", x.told(1, 3), 1000);
        Check.due("above its bound", x.told(2, 3), 3);
    }

    private static void looksChangeNothing() {
        Check.sentence(7, "What is refused changes nothing.");
        int[] wrong = {0, -1, 100000, MIN, MAX};
        for (int w : wrong) {
            Refusal.due("fee(" + w + ")", Make::busy, x -> x.fee(w), -1);
        }
    }
}
