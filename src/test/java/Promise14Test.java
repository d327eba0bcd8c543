/** Promise 14, sign: each sentence that names a boundary, alone. */
public final class Promise14Test {
    private static final int MIN = Integer.MIN_VALUE;
    private static final int MAX = Integer.MAX_VALUE;

    public static void main(String[] args) {
        noneSuch();
        signsAre0To13();
        fourOfItsNumber();
        fiveOfTheSum();
        fourOfTheWord();
        itsRestBy97();
        theRestBy96();
        theFirstAndTheLastMinuteOfADay();
        theLastDay();
        ofOthersNone();
        readOnesHaveThem();
        changedOnesToo();
        looksChangeNothing();
        Check.end("Promise14Test");
    }

    private static void due(WireMoney x, int message, String signs) {
        for (int i = 0; i < 13; i++) {
            Check.due("sign(" + message + ", " + i + ")", x.sign(message, i), signs.charAt(i) - '0');
        }
    }

    private static void noneSuch() {
        Check.sentence(14, "NONE if there is none such");
        WireMoney x = Make.pair(0, 1);
        Check.due("none at all", x.sign(0, 0), -1);
        Check.due("none at all, its TEST", x.sign(0, 13), -1);
        x.order(0, 1, 5, 5);
        Check.due("sign(0, 0)", x.sign(0, 0), 0);
        int[] wrong = {-1, 1, 999, 1000, MIN, MAX};
        for (int w : wrong) {
            Check.due("sign(" + w + ", 0)", x.sign(w, 0), -1);
            Check.due("sign(" + w + ", 13)", x.sign(w, 13), -1);
        }
    }

    private static void signsAre0To13() {
        Check.sentence(14, "SIGN i of a PAYMENT (13: its TEST); NONE for others");
        WireMoney x = Make.pair(0, 1);
        x.order(0, 1, 5, 4);
        int[] wrong = {-1, 14, 15, MIN, MAX};
        for (int w : wrong) {
            Check.due("sign(0, " + w + ")", x.sign(0, w), -1);
        }
        Check.due("sign(0, 0)", x.sign(0, 0), 0);
        Check.due("sign(0, 12)", x.sign(0, 12), 4);
        Check.due("sign(0, 13)", x.sign(0, 13), (5 * 9 + 4 * 61) % 97);
    }

    private static void fourOfItsNumber() {
        Check.sentence(14, "four of its number (zeros ahead)");
        WireMoney x = Make.pair(0, 1);
        for (int i = 0; i < 200; i++) {
            x.order(0, 1, 1, 0);
        }
        int[] numbers = {0, 9, 10, 99, 100, 199};
        for (int n : numbers) {
            due(x, n, String.format("%04d000010000", n));
        }
    }

    private static void fiveOfTheSum() {
        Check.sentence(14, "five of the SUM (zeros ahead)");
        int[] sums = {1, 9, 10, 9999, 10000, 54321, 99999};
        for (int sum : sums) {
            WireMoney x = Make.pair(0, 1);
            x.order(0, 1, sum, 0);
            due(x, 0, String.format("0000%05d0000", sum));
        }
    }

    private static void fourOfTheWord() {
        Check.sentence(14, "four of the WORD (zeros ahead)");
        int[] words = {0, 1, 9, 10, 999, 1000, 4321, 9999};
        for (int word : words) {
            WireMoney x = Make.pair(0, 1);
            x.order(0, 1, 1, word);
            due(x, 0, String.format("000000001%04d", word));
        }
    }

    private static int test(int minute, int sum, int word) {
        WireMoney x = Make.until(Make.pair(0, 1), minute);
        x.order(0, 1, sum, word);
        return x.sign(0, 13);
    }

    /** On DAY 0 the WEIGHTS of places 8, 11 and 12 are 9, 48 and 61. */
    private static void itsRestBy97() {
        Check.sentence(14, "a TEST: the sum of each SIGN times its WEIGHT, its rest by 97");
        Check.due("95", test(0, 1, 3), (9 + 3 * 61) % 97);
        Check.due("9 and 48 and 7 times 61 are 484, the rest is 96", test(0, 1, 17), 96);
        Check.due("4 times 9 and 61 are 97, the rest is 0", test(0, 4, 1), 0);
        Check.due("one is the least", test(0, 4, 15), 1);
    }

    /** The WEIGHT of place 8 on DAYS 5 and 7 is 44 and 58. */
    private static void theRestBy96() {
        Check.sentence(14, "The WEIGHT of place i on a DAY d is 1 and the rest of (7 d and 13 i) by 96");
        Check.due("DAY 5, place 12: 191, the rest is 95", test(7200, 1, 1), (44 + 96) % 97);
        Check.due("DAY 7, place 11: 192, the rest is 0", test(10080, 1, 10), 58 + 1);
        int[] weights = {53, 66, 79, 92, 9};
        int sum = 10000;
        for (int weight : weights) {
            Check.due("SUM " + sum, test(0, sum, 0), weight);
            sum /= 10;
        }
        int[] ofWord = {22, 35, 48, 61};
        int word = 1000;
        for (int weight : ofWord) {
            Check.due("WORD " + word, test(0, 1, word), 9 + weight);
            word /= 10;
        }
    }

    /** SUM 1, WORD 0: the TEST is the WEIGHT of place 8. */
    private static void theFirstAndTheLastMinuteOfADay() {
        Check.sentence(14, "d being the DAY on which the message was written");
        int[][] due = {{0, 9}, {1439, 9}, {1440, 16}, {2879, 16}, {2880, 23}};
        for (int[] d : due) {
            Check.due("written at " + d[0], test(d[0], 1, 0), d[1]);
        }
    }

    private static void theLastDay() {
        Check.sentence(14, "the DAY is NOW by 1440 (cut) (20000: 13)");
        int[][] due = {{18719, 93}, {18720, 4}, {19999, 4}, {20000, 4}};
        for (int[] d : due) {
            Check.due("written at " + d[0], test(d[0], 1, 0), d[1]);
        }
    }

    private static void ofOthersNone() {
        Check.sentence(14, "NONE for others (MESSAGES that are no PAYMENTS)");
        WireMoney x = Make.pair(0, 1);
        x.order(0, 1, 5, 5);
        x.garble(0, 0, 9);
        x.stop(0);
        x.go(10);
        int[] kinds = {0, 1, 3, 2};
        for (int message = 0; message < kinds.length; message++) {
            Check.due("kind of " + message, x.message(message, 0), kinds[message]);
        }
        for (int i = 0; i <= 13; i++) {
            for (int message = 1; message <= 3; message++) {
                Check.due("sign(" + message + ", " + i + ")", x.sign(message, i), -1);
            }
        }
    }

    private static void readOnesHaveThem() {
        Check.sentence(14, "SIGN i of a PAYMENT (that was READ)");
        WireMoney x = Make.pair(0, 1);
        x.order(0, 1, 98765, 4321);
        int test = x.sign(0, 13);
        x.go(2000);
        due(x, 0, "0000987654321");
        Check.due("its TEST", x.sign(0, 13), test);
    }

    private static void changedOnesToo() {
        Check.sentence(14, "SIGN i of a PAYMENT (that was changed)");
        WireMoney x = Make.pair(0, 1);
        x.order(0, 1, 98765, 4321);
        int test = x.sign(0, 13);
        x.garble(0, 0, 1);
        due(x, 0, "1000987654321");
        Check.due("its TEST is as written", x.sign(0, 13), test);
        x.go(3);
        due(x, 0, "1000987654321");
        due(x, 2, "0000987654321");
        Check.due("the TEST anew", x.sign(2, 13), test);
    }

    private static void looksChangeNothing() {
        Check.sentence(14, "What is refused changes nothing.");
        int[][] wrong = {{-1, 0}, {10, 0}, {0, -1}, {0, 14}, {3, 0}, {8, 13}, {MIN, MAX}};
        for (int[] w : wrong) {
            Refusal.due(Refusal.name("sign", w), Make::busy, x -> x.sign(w[0], w[1]), -1);
        }
    }
}
