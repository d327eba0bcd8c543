/** Promises 6 and 7: band, fee. */
public final class FeeTest {
    private static final int MIN = Integer.MIN_VALUE;
    private static final int MAX = Integer.MAX_VALUE;

    public static void main(String[] args) {
        withoutBands();
        wrongBands();
        bandsThatRise();
        eightBands();
        ordersKeepTheirFee();
        Check.end("FeeTest");
    }

    private static void withoutBands() {
        WireMoney x = new WireMoney();
        int[][] fees = {{1, 1}, {99, 1}, {100, 1}, {199, 1}, {200, 2}, {99999, 999}, {50000, 500},
            {0, -1}, {-1, -1}, {100000, -1}, {MIN, -1}, {MAX, -1}};
        for (int[] f : fees) {
            Check.due("fee(" + f[0] + ")", x.fee(f[0]), f[1]);
        }
    }

    private static void wrongBands() {
        WireMoney x = new WireMoney();
        int[][] wrong = {{0, 5}, {-1, 5}, {100000, 5}, {MIN, 5}, {MAX, 5}, {10, -1}, {10, 1001},
            {10, MIN}, {10, MAX}};
        for (int[] w : wrong) {
            Check.no("band" + java.util.Arrays.toString(w), x.band(w[0], w[1]));
        }
        Check.due("no band came", x.fee(1), 1);
        Check.yes("the least bound", x.band(1, 1000));
        Check.due("the highest fee", x.fee(1), 1000);
        Check.yes("the highest bound", x.band(99999, 0));
        Check.due("the least fee", x.fee(2), 0);
        Check.due("up to the highest sum", x.fee(99999), 0);
        Check.no("none above it", x.band(99999, 1));
        Check.due("still no sum 0", x.fee(0), -1);
        Check.due("still no sum 100000", x.fee(100000), -1);
    }

    private static void bandsThatRise() {
        WireMoney x = new WireMoney();
        Check.yes("band(100, 7)", x.band(100, 7));
        Check.no("like bound", x.band(100, 9));
        Check.no("lower bound", x.band(99, 9));
        Check.yes("one above", x.band(101, 3));
        Check.no("lower than the last", x.band(101, 4));
        Check.due("fee(1)", x.fee(1), 7);
        Check.due("fee(100)", x.fee(100), 7);
        Check.due("fee(101)", x.fee(101), 3);
        Check.due("fee(102)", x.fee(102), 1);
        Check.due("fee(350)", x.fee(350), 3);
    }

    private static void eightBands() {
        WireMoney x = new WireMoney();
        for (int i = 1; i <= 8; i++) {
            Check.yes("band " + i, x.band(10 * i, 100 + i));
        }
        Check.no("the ninth", x.band(90, 109));
        for (int i = 1; i <= 8; i++) {
            Check.due("its lowest sum " + i, x.fee(10 * i - 9), 100 + i);
            Check.due("its bound " + i, x.fee(10 * i), 100 + i);
        }
        Check.due("above all bounds", x.fee(81), 1);
    }

    private static void ordersKeepTheirFee() {
        WireMoney x = new WireMoney();
        x.counter(0, 0, 1440);
        x.counter(0, 0, 1440);
        x.wire(0, 1, 1);
        x.order(0, 1, 500, 1);
        x.band(1000, 20);
        x.order(0, 1, 500, 1);
        Check.due("a hundredth", x.told(0, 3), 5);
        Check.due("by the band", x.told(1, 3), 20);
        Check.due("both were taken", x.at(0, 4), 25);
        Check.due("the float is more by all", x.at(0, 0), 1025);
        Check.due("the other one took none", x.at(1, 4), 0);
    }
}
