/** Promises 12 to 15: garble, go, sign, message. */
public final class MessageTest {
    private static final int MIN = Integer.MIN_VALUE;
    private static final int MAX = Integer.MAX_VALUE;

    public static void main(String[] args) {
        signsOfAPayment();
        testByTheDay();
        everyWrongSignIsTold();
        garbles();
        wrongGarbles();
        garbledAgain();
        repeatOfAPaidOrStoppedOrder();
        minutes();
        theLastMinute();
        steps();
        queuesFillByNumbers();
        messages();
        Check.end("MessageTest");
    }

    private static WireMoney pair(int minutes) {
        WireMoney x = new WireMoney();
        x.counter(1000, 0, 1440);
        x.counter(1000, 0, 1440);
        x.wire(0, 1, minutes);
        return x;
    }

    private static void dueSigns(WireMoney x, int message, String signs, int test) {
        for (int i = 0; i < 13; i++) {
            Check.due("sign(" + message + ", " + i + ")", x.sign(message, i), signs.charAt(i) - '0');
        }
        Check.due("sign(" + message + ", 13)", x.sign(message, 13), test);
    }

    private static void signsOfAPayment() {
        WireMoney x = pair(1);
        for (int i = 0; i < 12; i++) {
            x.order(0, 1, 1, 0);
        }
        x.order(0, 1, 34567, 8901);
        x.order(0, 1, 6, 3);
        // Weights of day 0: 1 14 27 40 53 66 79 92 9 22 35 48 61.
        dueSigns(x, 0, "0000000010000", 9);
        dueSigns(x, 12, "0012345678901", (27 + 80 + 3 * 53 + 4 * 66 + 5 * 79 + 6 * 92 + 7 * 9 + 8 * 22 + 9 * 35 + 61) % 97);
        dueSigns(x, 13, "0013000060003", (27 + 3 * 40 + 6 * 9 + 3 * 61) % 97);
        x.stop(0);
        int[][] wrong = {{0, -1}, {0, 14}, {0, MIN}, {0, MAX}, {14, 0}, {14, 13}, {15, 0}, {-1, 0},
            {MIN, 0}, {MAX, 13}};
        for (int[] w : wrong) {
            Check.due("sign" + java.util.Arrays.toString(w), x.sign(w[0], w[1]), -1);
        }
        x.go(50);
        Check.due("a READ one has its signs", x.sign(12, 5), 4);
    }

    private static void testByTheDay() {
        WireMoney x = pair(1);
        x.go(1439);
        x.order(0, 1, 1, 0);
        x.go(1);
        x.order(0, 1, 1, 0);
        for (int i = 0; i < 9; i++) {
            x.go(2000);
        }
        x.order(0, 1, 1, 0);
        Check.due("NOW, on day 13", x.count(0), 19440);
        // The number's last digit stands at place 3, the sum's at place 8.
        Check.due("day 0", x.sign(0, 13), 1 + 104 % 96);
        Check.due("day 1", x.sign(1, 13), (1 + (7 + 39) % 96) + (1 + (7 + 104) % 96));
        Check.due("day 13", x.sign(2, 13), (2 * (1 + (91 + 39) % 96) + (1 + (91 + 104) % 96)) % 97);
    }

    private static void everyWrongSignIsTold() {
        for (int place = 0; place < 13; place++) {
            for (int digit = 0; digit < 10; digit++) {
                WireMoney x = pair(1);
                x.go(place * digit * 17);
                x.order(0, 1, 56789, 4321);
                int was = x.sign(0, place);
                boolean other = was != digit;
                Check.due("garble(0, " + place + ", " + digit + ")", x.garble(0, place, digit) ? 1 : 0, other ? 1 : 0);
                Check.due("the sign", x.sign(0, place), digit);
                x.go(2);
                Check.due("GARBLED at " + place + " by " + digit, x.message(0, 6), other ? 1 : 0);
                Check.due("KNOWN if it fits", x.told(0, 4), other ? 0 : 1);
            }
        }
    }

    private static void garbles() {
        WireMoney x = pair(3);
        x.order(0, 1, 100, 7);
        int test = x.sign(0, 13);
        x.go(2);
        Check.yes("on a wire too", x.garble(0, 12, 8));
        Check.due("the sign is another one", x.sign(0, 12), 8);
        Check.due("the TEST is as it was", x.sign(0, 13), test);
        Check.due("not GARBLED before it is READ", x.message(0, 6), 0);
        Check.due("none GARBLED yet", x.count(5), 0);
        x.go(2);
        Check.due("GARBLED", x.message(0, 6), 1);
        Check.due("one GARBLED", x.count(5), 1);
        Check.due("READ", x.message(0, 5), 3);
        Check.due("never KNOWN so", x.told(0, 4), 0);
        Check.due("never paid", x.pay(0, 8), 1);
        Check.due("no LACK", x.at(1, 2), 0);
        int[] repeat = {3, 0, 1, 0, -1, -1, 0};
        for (int what = 0; what < repeat.length; what++) {
            Check.due("the REPEAT's " + what, x.message(1, what), repeat[what]);
        }
        x.go(3);
        Check.due("the REPEAT is READ", x.message(1, 5), 6);
        int[] anew = {0, 0, 0, 1, -1, -1, 0};
        for (int what = 0; what < anew.length; what++) {
            Check.due("the new PAYMENT's " + what, x.message(2, what), anew[what]);
        }
        Check.due("its word is right again", x.sign(2, 12), 7);
        Check.due("two PAYMENTS", x.told(0, 9), 2);
        x.go(3);
        Check.due("KNOWN", x.told(0, 4), 1);
        Check.due("paid by the word of the ORDER", x.pay(0, 7), 0);
        Check.due("one GARBLED yet", x.count(5), 1);
        Check.due("the sum was paid in once", x.at(0, 0), 1101);
    }

    private static void wrongGarbles() {
        WireMoney x = pair(1);
        x.order(0, 1, 100, 7);
        x.stop(0);
        int[][] wrong = {{0, 13, 5}, {0, -1, 5}, {0, MIN, 5}, {0, MAX, 5}, {0, 0, 10}, {0, 0, -1},
            {0, 0, MIN}, {0, 0, MAX}, {0, 0, 0}, {0, 12, 7}, {0, 6, 1}, {1, 0, 5}, {2, 0, 5},
            {-1, 0, 5}, {MIN, 0, 5}, {MAX, 0, 5}};
        for (int[] w : wrong) {
            Check.no("garble" + java.util.Arrays.toString(w), x.garble(w[0], w[1], w[2]));
        }
        dueSigns(x, 0, "0000001000007", (79 + 7 * 61) % 97);
        Check.yes("what was refused doesn't count", x.garble(0, 0, 9));
        Check.no("no second one", x.garble(0, 1, 9));
        Check.no("not even back", x.garble(0, 0, 0));
        dueSigns(x, 0, "9000001000007", (79 + 7 * 61) % 97);
        x.order(0, 1, 100, 7);
        x.go(4);
        Check.no("not one that was READ", x.garble(2, 0, 9));
        Check.due("it fits", x.message(2, 6), 0);
    }

    private static void garbledAgain() {
        WireMoney x = pair(1);
        x.go(1438);
        x.order(0, 1, 100, 7);
        x.garble(0, 0, 1);
        x.go(3);
        Check.due("READ at 1439, REPEAT at 1440", x.message(1, 5), 1440);
        Check.yes("the new one can be garbled too", x.garble(2, 3, 5));
        x.go(1);
        Check.due("GARBLED again", x.message(2, 6), 1);
        Check.due("two GARBLED", x.count(5), 2);
        x.go(2);
        Check.due("three PAYMENTS", x.told(0, 9), 3);
        Check.due("KNOWN at last", x.told(0, 4), 1);
        Check.due("TEST of day 0", x.sign(0, 13), (79 + 7 * 61) % 97);
        Check.due("TEST of day 1", x.sign(2, 13), (86 + 7 * 68) % 97);
        Check.due("TEST of day 1 again", x.sign(4, 13), (86 + 7 * 68) % 97);
    }

    private static void repeatOfAPaidOrStoppedOrder() {
        WireMoney x = pair(10);
        x.order(0, 1, 100, 7);
        x.go(10);
        x.garble(0, 4, 4);
        x.stop(0);
        x.go(11);
        Check.due("the STOP found it neither KNOWN nor PAID", x.told(0, 6), 1);
        x.go(40);
        Check.due("no new PAYMENT for a STOPPED one", x.told(0, 9), 1);
        Check.due("four messages", x.count(4), 4);
        Check.due("REPEAT READ", x.message(2, 5), 20);
        Check.due("paid back", x.message(3, 5), 30);
    }

    private static void minutes() {
        WireMoney x = new WireMoney();
        Check.due("go(0)", x.go(0), 0);
        Check.due("go(1)", x.go(1), 1);
        Check.due("go(2000)", x.go(2000), 2001);
        int[] wrong = {-1, 2001, MIN, MAX};
        for (int w : wrong) {
            Check.due("go(" + w + ")", x.go(w), -1);
        }
        Check.due("NOW as it was", x.count(0), 2001);
        for (int i = 0; i < 8; i++) {
            x.go(2000);
        }
        Check.due("18001", x.count(0), 18001);
        Check.due("to the last one", x.go(1999), 20000);
        Check.due("not beyond", x.go(2000), 20000);
        Check.due("go(0) there", x.go(0), 20000);
        Check.due("a wrong one there", x.go(2001), -1);
    }

    private static void theLastMinute() {
        WireMoney x = pair(1);
        for (int i = 0; i < 9; i++) {
            x.go(2000);
        }
        x.go(1997);
        x.order(0, 1, 5, 5);
        x.go(1);
        Check.due("on its wire", x.message(0, 4), -1);
        x.order(0, 1, 6, 6);
        x.go(2000);
        Check.due("READ in 19998", x.message(0, 5), 19998);
        Check.due("READ in 19999", x.message(1, 5), 19999);
        x.order(0, 1, 7, 7);
        Check.due("no MINUTE is left", x.go(5), 20000);
        Check.due("it stays in its queue", x.message(2, 4), 0);
        Check.yes("and can be garbled", x.garble(2, 0, 1));
        Check.due("pay goes on", x.pay(1, 6), 0);
        Check.due("PAID in the last one", x.told(1, 8), 20000);
        Check.no("no down before NOW", x.down(0, 19999, 20000));
    }

    private static void steps() {
        WireMoney x = new WireMoney();
        for (int i = 0; i < 3; i++) {
            x.counter(1000, 0, 1440);
        }
        x.wire(0, 1, 1);
        x.wire(1, 2, 60);
        x.order(0, 2, 5, 5);
        x.go(1);
        Check.due("on the first wire", x.message(0, 4), -1);
        x.go(1);
        Check.due("comes and goes on in one MINUTE", x.message(0, 4), -1);
        Check.due("no queue at 1", x.at(1, 5), 0);
        x.go(59);
        Check.due("at 61 not yet READ", x.message(0, 5), -1);
        Check.due("NOW is 61", x.count(0), 61);
        x.go(1);
        Check.due("READ in 61", x.message(0, 5), 61);
        Check.due("at 2", x.message(0, 4), 2);
        WireMoney y = pair(1);
        y.order(0, 1, 5, 5);
        y.garble(0, 0, 1);
        y.go(2);
        Check.due("what is written in (1) sets out in (2)", y.message(1, 4), -1);
        y.go(1);
        Check.due("and is READ in the next MINUTE", y.message(1, 5), 2);
    }

    /** Messages that come to counter 1 in one MINUTE queue by their numbers, new ones among them. */
    private static void queuesFillByNumbers() {
        WireMoney x = new WireMoney();
        for (int i = 0; i < 4; i++) {
            x.counter(1000, 0, 1440);
        }
        x.wire(3, 1, 1);
        x.wire(2, 1, 1);
        x.wire(0, 1, 1);
        x.order(2, 0, 5, 5);
        x.order(0, 1, 5, 5);
        x.order(3, 0, 5, 5);
        x.garble(1, 0, 1);
        x.go(10);
        Check.due("the first by its number", x.message(0, 5), 2);
        Check.due("then the REPEAT of the second", x.message(3, 5), 3);
        Check.due("then the third", x.message(2, 5), 4);
    }

    private static void messages() {
        WireMoney x = pair(2);
        x.order(1, 0, 100, 7);
        x.order(0, 1, 100, 7);
        int[] waits = {0, 0, 1, 0, 1, -1, 0};
        int[] flies = {0, 0, 1, 0, -1, -1, 0};
        int[] isRead = {0, 0, 1, 0, 0, 2, 0};
        dueMessage(x, waits);
        x.go(1);
        dueMessage(x, flies);
        x.go(1);
        dueMessage(x, flies);
        x.go(1);
        dueMessage(x, isRead);
        x.go(100);
        dueMessage(x, isRead);
        Check.due("the other one's ORDER", x.message(1, 1), 1);
        Check.due("the other one's from", x.message(1, 2), 0);
        Check.due("the other one's to", x.message(1, 3), 1);
        int[][] wrong = {{0, -1}, {0, 7}, {0, MIN}, {0, MAX}, {2, 0}, {-1, 0}, {1000, 0}, {MIN, 0}, {MAX, 0}};
        for (int[] w : wrong) {
            Check.due("message" + java.util.Arrays.toString(w), x.message(w[0], w[1]), -1);
        }
    }

    private static void dueMessage(WireMoney x, int[] due) {
        for (int what = 0; what < due.length; what++) {
            Check.due("at " + x.count(0) + " message(0, " + what + ")", x.message(0, what), due[what]);
        }
    }
}
