/** Objects with a past, for the tests of the promises. */
final class Make {
    /** MESSAGES of messages() that are held, by what they are. */
    static final int GARBLED_ONE = 0;
    static final int REPEAT = 1;
    static final int TO_BE_GARBLED = 2;
    static final int STOP = 4;
    static final int FITTING_ONE = 5;

    private Make() {
    }

    /** COUNTERS with 1000 coins each, OPEN all day, without WIRES. */
    static WireMoney counters(int n) {
        WireMoney x = new WireMoney();
        for (int i = 0; i < n; i++) {
            x.counter(1000, 0, 1440);
        }
        return x;
    }

    /** Two COUNTERS that are OPEN all day, joined by one WIRE. */
    static WireMoney pair(int coins, int minutes) {
        WireMoney x = new WireMoney();
        x.counter(coins, 0, 1440);
        x.counter(coins, 0, 1440);
        x.wire(0, 1, minutes);
        return x;
    }

    /** COUNTERS with 1000 coins each, each one joined to the next one. */
    static WireMoney line(int n, int minutes) {
        WireMoney x = counters(n);
        for (int i = 0; i + 1 < n; i++) {
            x.wire(i, i + 1, minutes);
        }
        return x;
    }

    /** Goes on until NOW is that MINUTE; ten calls are enough for every one. */
    static WireMoney until(WireMoney x, int minute) {
        int now = x.count(0);
        for (int i = 0; i < 10 && now < minute; i++) {
            now = x.go(Math.min(2000, minute - now));
        }
        Check.due("NOW on the way to " + minute, now, minute);
        return x;
    }

    /**
     * Something of each kind, NOW being 21. ORDERS: 0 PAID, 1 STOPPED and paid back, 2 KNOWN at a
     * COUNTER that lacks coins, 3 KNOWN, 4 on a WIRE with a changed SIGN, 5 with its STOP in a
     * queue, 6 in a queue. MESSAGES: 3 a STOP, 5 a STOPPED, 6 of ORDER 4, 7 and 8 of 5, 9 of 6.
     */
    static WireMoney busy() {
        WireMoney x = new WireMoney();
        x.counter(1000, 0, 1440);
        x.counter(500, 0, 1440);
        x.counter(10, 10, 600);
        x.wire(0, 1, 2);
        x.wire(1, 2, 3);
        x.wire(0, 1, 2);
        x.band(50, 3);
        x.band(200, 5);
        x.order(0, 1, 100, 7);
        x.order(0, 1, 40, 8);
        x.order(0, 2, 60, 9);
        x.stop(1);
        x.order(1, 0, 30, 1);
        x.go(20);
        x.pay(0, 7);
        x.cart(0, 2, 5);
        x.order(0, 2, 70, 2);
        x.garble(6, 12, 9);
        x.go(1);
        x.order(0, 1, 80, 3);
        x.stop(5);
        x.order(2, 0, 10, 4);
        x.down(1, 25, 40);
        return x;
    }

    /** As many COUNTERS, WIRES, BANDS and ORDERS as there can be. */
    static WireMoney full() {
        WireMoney x = line(10, 20);
        for (int i = 0; i < 6; i++) {
            x.wire(i, i + 2, 50);
        }
        for (int i = 1; i <= 8; i++) {
            x.band(10 * i, i);
        }
        for (int i = 0; i < 200; i++) {
            x.order(i % 10, (i + 3) % 10, i + 1, i);
        }
        return x;
    }

    /**
     * One ORDER between COUNTERS 0 and 1 is GARBLED until there are so many MESSAGES, while
     * others between 2 and 3 are held: 0 with a REPEAT (MESSAGE 1) at COUNTER 3, 1 with a changed
     * SIGN (2), 2 with its STOP (3, 4), 3 with a PAYMENT that fits (5). 512 calls can't write so
     * many; the bound is kept by the class beyond them too.
     */
    static WireMoney messages(int n) {
        WireMoney x = counters(4);
        x.wire(0, 1, 1);
        x.wire(2, 3, 1);
        x.order(2, 3, 30, 3);
        x.garble(GARBLED_ONE, 0, 9);
        x.go(1);
        x.down(1, 1, 20000);
        x.go(1);
        x.order(2, 3, 10, 1);
        x.garble(TO_BE_GARBLED, 0, 9);
        x.order(2, 3, 20, 2);
        x.stop(2);
        x.order(2, 3, 40, 4);
        x.order(0, 1, 5, 5);
        for (int i = 0; i < 3000 && x.count(4) < n; i++) {
            x.garble(x.count(4) - 1, 0, 9);
            x.go(1);
        }
        return x;
    }

    /** The WIRE that messages() holds is up again from NOW on. */
    static void lift(WireMoney x) {
        int now = x.count(0);
        x.down(1, now + 1000, now + 1001);
    }
}
