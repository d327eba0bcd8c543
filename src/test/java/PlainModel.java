import java.util.ArrayDeque;
import java.util.ArrayList;
import java.util.Deque;
import java.util.List;

/**
 * A second telling of the document for ModelTest, as plain as it goes: nothing is kept that can
 * be reckoned anew, every MINUTE is walked through, and only OWED is a full table.
 */
final class PlainModel {
    static final class Counter {
        int coins;
        int opens;
        int shuts;
        int fees;
    }

    static final class Wire {
        int[] ends;
        int minutes;
        int from = -5;
        int to = -5;
        List<Deque<Message>> queues = List.of(new ArrayDeque<>(), new ArrayDeque<>());
    }

    static final class Order {
        int from;
        int to;
        int sum;
        int word;
        int fee;
        int paidAt = -1;
        boolean known;
        boolean stopped;
        boolean back;
    }

    static final class Message {
        int kind;
        int order;
        int from;
        int to;
        int day;
        String signs;
        String signsAsWritten;
        int place;
        int comesTo = -1;
        int comesAt = -1;
        int readAt = -1;
        boolean garbled;
        boolean late;
    }

    final List<Counter> counters = new ArrayList<>();
    final List<Wire> wires = new ArrayList<>();
    final List<int[]> bands = new ArrayList<>();
    final List<Order> orders = new ArrayList<>();
    final List<Message> messages = new ArrayList<>();
    /** owes[a][b]: what a owes to b. */
    final int[][] owes = new int[10][10];
    int now = 0;

    private static <T> T get(List<T> list, int i) {
        return i < 0 || i >= list.size() ? null : list.get(i);
    }

    private boolean open(Counter c) {
        return c.opens <= now % 1440 && now % 1440 < c.shuts;
    }

    int counter(int coins, int opens, int shuts) {
        if (coins < 0 || coins > 1000000 || opens < 0 || opens > 1440 || shuts < 0 || shuts > 1440
                || shuts <= opens || counters.size() == 10) {
            return -1;
        }
        Counter c = new Counter();
        c.coins = coins;
        c.opens = opens;
        c.shuts = shuts;
        counters.add(c);
        return counters.size() - 1;
    }

    int wire(int a, int b, int minutes) {
        if (get(counters, a) == null || get(counters, b) == null || a == b
                || minutes < 1 || minutes > 60 || wires.size() == 15) {
            return -1;
        }
        Wire w = new Wire();
        w.ends = new int[] {a, b};
        w.minutes = minutes;
        wires.add(w);
        return wires.size() - 1;
    }

    boolean down(int wire, int from, int to) {
        Wire w = get(wires, wire);
        if (w == null || from < now || to <= from) {
            return false;
        }
        w.from = from;
        w.to = to;
        return true;
    }

    /** Bellman and Ford's rounds, from b. */
    int least(int a, int b) {
        if (get(counters, a) == null || get(counters, b) == null) {
            return -1;
        }
        int[] far = new int[counters.size()];
        java.util.Arrays.fill(far, 99999);
        far[b] = 0;
        for (int round = 0; round < counters.size(); round++) {
            for (Wire w : wires) {
                far[w.ends[0]] = Math.min(far[w.ends[0]], far[w.ends[1]] + w.minutes);
                far[w.ends[1]] = Math.min(far[w.ends[1]], far[w.ends[0]] + w.minutes);
            }
        }
        return far[a] >= 99999 ? -1 : far[a];
    }

    private void queue(Message m) {
        int best = least(m.place, m.to);
        for (int next = 0; next < counters.size(); next++) {
            Wire chosen = null;
            for (Wire w : wires) {
                boolean joins = w.ends[0] == m.place && w.ends[1] == next
                        || w.ends[1] == m.place && w.ends[0] == next;
                if (joins && (chosen == null || w.minutes < chosen.minutes)) {
                    chosen = w;
                }
            }
            if (chosen != null && chosen.minutes + least(next, m.to) == best) {
                chosen.queues.get(chosen.ends[0] == m.place ? 0 : 1).addLast(m);
                return;
            }
        }
        throw new IllegalStateException("no way");
    }

    boolean band(int bound, int fee) {
        boolean rises = bands.isEmpty() || bands.get(bands.size() - 1)[0] < bound;
        if (bound < 1 || bound > 99999 || fee < 0 || fee > 1000 || !rises || bands.size() == 8) {
            return false;
        }
        bands.add(new int[] {bound, fee});
        return true;
    }

    int fee(int sum) {
        if (sum < 1 || sum > 99999) {
            return -1;
        }
        for (int[] band : bands) {
            if (sum <= band[0]) {
                return band[1];
            }
        }
        return sum < 100 ? 1 : sum / 100;
    }

    private static int test(String signs, int day) {
        int sum = 0;
        for (int i = 0; i < 13; i++) {
            sum += (signs.charAt(i) - '0') * (1 + (7 * day + 13 * i) % 96);
        }
        return sum % 97;
    }

    private void write(int kind, int order, int from, int to) {
        if (messages.size() == 1000) {
            return;
        }
        Order o = orders.get(order);
        Message m = new Message();
        m.kind = kind;
        m.order = order;
        m.from = from;
        m.to = to;
        m.place = from;
        m.day = now / 1440;
        if (kind == 0) {
            m.signs = String.format("%04d%05d%04d", order, o.sum, o.word);
            m.signsAsWritten = m.signs;
        }
        messages.add(m);
        queue(m);
    }

    int order(int from, int to, int sum, int word) {
        Counter c = get(counters, from);
        if (c == null || get(counters, to) == null || from == to || least(from, to) < 0
                || sum < 1 || sum > 99999 || word < 0 || word > 9999 || !open(c)
                || orders.size() == 200 || messages.size() == 1000) {
            return -1;
        }
        Order o = new Order();
        o.from = from;
        o.to = to;
        o.sum = sum;
        o.word = word;
        o.fee = fee(sum);
        orders.add(o);
        c.coins += o.sum;
        c.coins += o.fee;
        c.fees += o.fee;
        write(0, orders.size() - 1, from, to);
        return orders.size() - 1;
    }

    int stop(int order) {
        Order o = get(orders, order);
        if (o == null || messages.size() == 1000) {
            return -1;
        }
        for (Message m : messages) {
            if (m.kind == 1 && m.order == order) {
                return -1;
            }
        }
        write(1, order, o.from, o.to);
        return messages.size() - 1;
    }

    int pay(int order, int word) {
        Order o = get(orders, order);
        if (o == null || !o.known) {
            return 1;
        }
        Counter c = counters.get(o.to);
        if (o.paidAt >= 0 || o.stopped) {
            return o.paidAt >= 0 ? 2 : 3;
        }
        if (!open(c) || word != o.word) {
            return open(c) ? 5 : 4;
        }
        if (c.coins < o.sum) {
            return 6;
        }
        c.coins -= o.sum;
        owes[o.from][o.to] += o.sum;
        o.paidAt = now;
        return 0;
    }

    boolean cart(int from, int to, int n) {
        Counter a = get(counters, from);
        Counter b = get(counters, to);
        if (a == null || b == null || from == to || n < 1 || n > a.coins) {
            return false;
        }
        a.coins -= n;
        b.coins += n;
        owes[to][from] += n;
        return true;
    }

    boolean garble(int message, int place, int digit) {
        Message m = get(messages, message);
        if (m == null || m.kind != 0 || m.readAt >= 0 || !m.signs.equals(m.signsAsWritten)
                || place < 0 || place > 12 || digit < 0 || digit > 9
                || m.signs.charAt(place) == '0' + digit) {
            return false;
        }
        m.signs = m.signs.substring(0, place) + digit + m.signs.substring(place + 1);
        return true;
    }

    int go(int n) {
        if (n < 0 || n > 2000) {
            return -1;
        }
        for (int i = 0; i < n && now < 20000; i++) {
            for (Message m : new ArrayList<>(messages)) {
                if (m.comesAt == now) {
                    m.place = m.comesTo;
                    m.comesAt = -1;
                    if (m.place == m.to) {
                        read(m);
                    } else {
                        queue(m);
                    }
                }
            }
            for (Wire w : wires) {
                boolean isDown = w.from <= now && now < w.to;
                for (int way = 0; way < 2 && !isDown; way++) {
                    Message m = w.queues.get(way).pollFirst();
                    if (m != null) {
                        m.place = -1;
                        m.comesTo = w.ends[1 - way];
                        m.comesAt = now + w.minutes;
                    }
                }
            }
            now++;
        }
        return now;
    }

    private void read(Message m) {
        m.readAt = now;
        Order o = orders.get(m.order);
        if (m.kind == 0) {
            m.garbled = test(m.signs, m.day) != test(m.signsAsWritten, m.day);
            if (m.garbled) {
                write(3, m.order, m.to, m.from);
            } else {
                o.known |= !o.stopped;
            }
        } else if (m.kind == 1) {
            m.late = o.paidAt >= 0;
            if (!m.late) {
                o.stopped = true;
                write(2, m.order, m.to, m.from);
            }
        } else if (m.kind == 2) {
            o.back = true;
            counters.get(o.from).coins -= o.sum;
        } else if (o.paidAt < 0 && !o.stopped) {
            write(0, m.order, o.from, o.to);
        }
    }

    int sign(int message, int i) {
        Message m = get(messages, message);
        if (m == null || m.kind != 0 || i < 0 || i > 13) {
            return -1;
        }
        return i == 13 ? test(m.signsAsWritten, m.day) : m.signs.charAt(i) - '0';
    }

    int message(int number, int what) {
        Message m = get(messages, number);
        if (m == null || what < 0 || what > 6) {
            return -1;
        }
        int[] answers = {m.kind, m.order, m.from, m.to, m.place, m.readAt, m.garbled ? 1 : 0};
        return answers[what];
    }

    int told(int order, int what) {
        Order o = get(orders, order);
        if (o == null || what < 0 || what > 9) {
            return -1;
        }
        int written = 0;
        for (Message m : messages) {
            written += m.kind == 0 && m.order == order ? 1 : 0;
        }
        int[] answers = {o.from, o.to, o.sum, o.fee, o.known ? 1 : 0, o.paidAt >= 0 ? 1 : 0,
            o.stopped ? 1 : 0, o.back ? 1 : 0, o.paidAt, written};
        return answers[what];
    }

    int at(int counter, int what) {
        Counter c = get(counters, counter);
        if (c == null || what < 0 || what > 5) {
            return Integer.MIN_VALUE;
        }
        int lack = -c.coins;
        for (Order o : orders) {
            lack += o.to == counter && o.known && o.paidAt < 0 && !o.stopped ? o.sum : 0;
        }
        int owed = 0;
        for (int i = 0; i < 10; i++) {
            owed += owes[i][counter] - owes[counter][i];
        }
        int queued = 0;
        for (Message m : messages) {
            queued += m.readAt < 0 && m.place == counter ? 1 : 0;
        }
        int[] answers = {c.coins, open(c) ? 1 : 0, Math.max(lack, 0), owed, c.fees, queued};
        return answers[what];
    }

    int count(int what) {
        int garbled = 0;
        int late = 0;
        int paid = 0;
        for (Message m : messages) {
            garbled += m.garbled ? 1 : 0;
            late += m.late ? 1 : 0;
        }
        for (Order o : orders) {
            paid += o.paidAt >= 0 ? 1 : 0;
        }
        int[] answers = {now, counters.size(), wires.size(), orders.size(), messages.size(),
            garbled, paid, late};
        return what < 0 || what > 7 ? -1 : answers[what];
    }
}
