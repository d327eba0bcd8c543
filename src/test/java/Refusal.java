import java.util.ArrayList;
import java.util.Arrays;
import java.util.List;
import java.util.function.Supplier;

/** "What is refused changes nothing.": two objects with one past, one of them asked in vain. */
final class Refusal {
    /** Well below 512 with the calls of each past, as nothing is promised behind these. */
    private static final int LOOKS_OF_ONE_OBJECT = 250;
    private static final int[] MINUTES_LATER = {0, 1, 70};
    private static final int[] SUMS = {1, 10, 11, 50, 51, 80, 81, 99, 100, 200, 201, 99999};

    interface Call {
        long of(WireMoney x);
    }

    record Look(String name, Call call) {
    }

    private Refusal() {
    }

    /** The answer is the one due, and from then on all answers are as if it hadn't been asked. */
    static void due(String what, Supplier<WireMoney> past, Call refused, long due) {
        Check.due(what, refused.of(past.get()), due);
        for (int minutes : MINUTES_LATER) {
            compare(what + ", " + minutes + " minutes later ", past, refused, minutes);
        }
        sameFuture(what + ", then ", past, refused);
    }

    static String name(String call, int... arguments) {
        return call + Arrays.toString(arguments);
    }

    private static void compare(String what, Supplier<WireMoney> past, Call refused, int minutes) {
        WireMoney sample = past.get();
        sample.go(minutes);
        List<Look> looks = looks(sample);
        for (int first = 0; first < looks.size(); first += LOOKS_OF_ONE_OBJECT) {
            WireMoney asked = past.get();
            refused.of(asked);
            asked.go(minutes);
            WireMoney other = past.get();
            other.go(minutes);
            int end = Math.min(looks.size(), first + LOOKS_OF_ONE_OBJECT);
            for (Look look : looks.subList(first, end)) {
                Check.due(what + look.name, look.call.of(asked), look.call.of(other));
            }
        }
    }

    /** All that can be asked without a change. */
    private static List<Look> looks(WireMoney sample) {
        List<Look> looks = new ArrayList<>();
        int counters = sample.count(1);
        for (int what = 0; what <= 7; what++) {
            int w = what;
            looks.add(new Look(name("count", w), x -> x.count(w)));
        }
        for (int sum : SUMS) {
            looks.add(new Look(name("fee", sum), x -> x.fee(sum)));
        }
        for (int a = 0; a <= counters; a++) {
            for (int b = 0; b <= counters; b++) {
                int from = a;
                int to = b;
                looks.add(new Look(name("least", from, to), x -> x.least(from, to)));
            }
        }
        add(looks, "at", counters, 6);
        add(looks, "told", sample.count(3), 10);
        add(looks, "message", sample.count(4), 7);
        add(looks, "sign", sample.count(4), 14);
        return looks;
    }

    /** One number more than there are, as a refused call must not have made it. */
    private static void add(List<Look> looks, String call, int numbers, int whats) {
        for (int number = 0; number <= numbers; number++) {
            for (int what = 0; what < whats; what++) {
                int n = number;
                int w = what;
                looks.add(new Look(name(call, n, w), x -> ask(x, call, n, w)));
            }
        }
    }

    private static int ask(WireMoney x, String call, int number, int what) {
        switch (call) {
            case "at":
                return x.at(number, what);
            case "told":
                return x.told(number, what);
            case "message":
                return x.message(number, what);
            default:
                return x.sign(number, what);
        }
    }

    /** Calls that do change: they show what no look shows, such as whether a STOP was written. */
    private static void sameFuture(String what, Supplier<WireMoney> past, Call refused) {
        WireMoney asked = past.get();
        refused.of(asked);
        WireMoney other = past.get();
        int orders = other.count(3);
        int messages = other.count(4);
        List<Look> calls = new ArrayList<>();
        for (int i = 0; i < 20; i++) {
            int message = i < 10 ? i : messages - 20 + i;
            calls.add(new Look(name("garble", message, 4, 8), x -> Check.number(x.garble(message, 4, 8))));
        }
        calls.add(new Look("order", x -> x.order(0, 1, 5, 5)));
        for (int i = 0; i < 10; i++) {
            int order = i;
            calls.add(new Look(name("stop", order), x -> x.stop(order)));
        }
        calls.add(new Look("counter", x -> x.counter(7, 0, 1440)));
        calls.add(new Look("wire", x -> x.wire(0, 1, 1)));
        calls.add(new Look("band of 60", x -> Check.number(x.band(60, 9))));
        calls.add(new Look("band of 300", x -> Check.number(x.band(300, 9))));
        calls.add(new Look("fee", x -> x.fee(250)));
        calls.add(new Look("cart", x -> Check.number(x.cart(0, 1, 1))));
        for (int i = 0; i < 10; i++) {
            calls.add(new Look("go(9)", x -> x.go(9)));
            calls.add(new Look("float", x -> x.at(0, 0)));
            calls.add(new Look("messages", x -> x.count(4)));
        }
        for (int i = 0; i < orders && i < 50; i++) {
            int order = i;
            calls.add(new Look(name("told", order, 4), x -> x.told(order, 4)));
            calls.add(new Look(name("told", order, 6), x -> x.told(order, 6)));
        }
        for (Look look : calls) {
            Check.due(what + look.name, look.call.of(asked), look.call.of(other));
        }
    }
}
