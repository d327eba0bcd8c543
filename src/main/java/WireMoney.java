/**
 * Money by wire: sums are paid in at one counter and paid out at another one,
 * by messages that queue at wires and carry a test by the day's table.
 *
 * <p>The words (FLOAT, WAY, READ, KNOWN and so on) are those of the document.
 */
public final class WireMoney {
    public static final int NONE = -1;

    /** Answer of at() where there is none; -1 can be a true answer there. */
    private static final int NO_FIGURE = -2147483648;

    private static final int LAST_MINUTE = 20000;
    private static final int MOST_MINUTES_AT_ONCE = 2000;
    private static final int MINUTES_OF_DAY = 1440;

    private static final int MOST_COUNTERS = 10;
    private static final int CELLS = MOST_COUNTERS * MOST_COUNTERS;
    private static final int MOST_WIRES = 15;
    private static final int MOST_BANDS = 8;
    private static final int MOST_ORDERS = 200;
    private static final int MOST_MESSAGES = 1000;

    private static final int MOST_COINS = 1000000;
    private static final int MOST_WIRE_MINUTES = 60;
    private static final int MOST_FEE = 1000;
    private static final int MOST_SUM = 99999;
    private static final int MOST_WORD = 9999;

    private static final int PAYMENT = 0;
    private static final int STOP = 1;
    private static final int STOPPED = 2;
    private static final int REPEAT = 3;

    /** SIGNS of a PAYMENT; the TEST is told as the place behind them. */
    private static final int PLACES = 13;

    /** Above every sum of MINUTES, and small enough that three of it add up in an int. */
    private static final int NO_WAY = 1000000;

    /** Above every MINUTE at which a message can come. */
    private static final int NEVER = 1000000;

    private final Net net;
    private final Bands bands;
    private final Order[] orders;
    private final Message[] messages;
    private int orderCount;
    private int messageCount;
    private int now;

    /** The first MINUTE at which a message comes off a WIRE: until then none has to be looked at. */
    private int nextArrival;

    private int garbledCount;
    private int paidCount;
    private int lateStopCount;

    public WireMoney() {
        net = new Net();
        bands = new Bands();
        orders = new Order[MOST_ORDERS];
        messages = new Message[MOST_MESSAGES];
        nextArrival = NEVER;
    }

    public int counter(int coins, int opens, int shuts) {
        boolean timesFit = opens >= 0 && opens < shuts && shuts <= MINUTES_OF_DAY;
        if (!isWithin(coins, 0, MOST_COINS) || !timesFit) {
            return NONE;
        }
        return net.addCounter(coins, opens, shuts);
    }

    public int wire(int a, int b, int minutes) {
        Counter first = net.findCounter(a);
        Counter second = net.findCounter(b);
        if (first == null || second == null || first == second
                || !isWithin(minutes, 1, MOST_WIRE_MINUTES)) {
            return NONE;
        }
        return net.addWire(first, second, minutes);
    }

    public boolean down(int wire, int from, int to) {
        Wire found = net.findWire(wire);
        if (found == null || from < now || to <= from) {
            return false;
        }
        found.downFrom = from;
        found.downTo = to;
        return true;
    }

    public int least(int a, int b) {
        Counter from = net.findCounter(a);
        Counter to = net.findCounter(b);
        if (from == null || to == null || !net.hasWay(from, to)) {
            return NONE;
        }
        return net.minutesBetween(from, to);
    }

    public boolean band(int bound, int fee) {
        return isWithin(bound, 1, MOST_SUM) && isWithin(fee, 0, MOST_FEE) && bands.add(bound, fee);
    }

    public int fee(int sum) {
        return isWithin(sum, 1, MOST_SUM) ? bands.feeOf(sum) : NONE;
    }

    public int order(int from, int to, int sum, int word) {
        Counter payer = net.findCounter(from);
        Counter payee = net.findCounter(to);
        if (payer == null || payee == null || payer == payee || !net.hasWay(payer, payee)
                || !isWithin(sum, 1, MOST_SUM) || !isWithin(word, 0, MOST_WORD)
                || !payer.isOpen(now) || orderCount >= orders.length || !canWrite()) {
            return NONE;
        }
        Order taken = new Order(orderCount, payer, payee, sum, word);
        taken.fee = bands.feeOf(sum);
        orders[orderCount] = taken;
        orderCount++;
        payer.coins += sum + taken.fee;
        payer.fees += taken.fee;
        write(PAYMENT, taken);
        return taken.number;
    }

    public int stop(int order) {
        Order found = findOrder(order);
        if (found == null || found.stopWritten || !net.hasWay(found.from, found.to) || !canWrite()) {
            return NONE;
        }
        int number = messageCount;
        found.stopWritten = true;
        write(STOP, found);
        return number;
    }

    public int pay(int order, int word) {
        Order found = findOrder(order);
        if (found == null || !found.known) {
            return 1;
        }
        if (found.paid) {
            return 2;
        }
        if (found.stopped) {
            return 3;
        }
        if (!found.to.isOpen(now)) {
            return 4;
        }
        if (found.word != word) {
            return 5;
        }
        if (found.to.coins < found.sum) {
            return 6;
        }
        payOut(found);
        return 0;
    }

    public boolean cart(int from, int to, int n) {
        Counter giver = net.findCounter(from);
        Counter taker = net.findCounter(to);
        if (giver == null || taker == null || giver == taker || !isWithin(n, 1, giver.coins)) {
            return false;
        }
        giver.coins -= n;
        taker.coins += n;
        owe(taker, giver, n);
        return true;
    }

    public boolean garble(int message, int place, int digit) {
        Message found = findMessage(message);
        if (found == null || found.signs == null || found.isRead()) {
            return false;
        }
        return found.signs.change(place, digit);
    }

    public int go(int n) {
        if (!isWithin(n, 0, MOST_MINUTES_AT_ONCE)) {
            return NONE;
        }
        int end = Math.min(now + n, LAST_MINUTE);
        for (int minute = now; minute < end; minute++) {
            takeIn();
            sendOut();
            now = minute + 1;
        }
        return now;
    }

    public int sign(int message, int i) {
        Message found = findMessage(message);
        if (found == null || found.signs == null) {
            return NONE;
        }
        return i == PLACES ? found.signs.test : found.signs.digitOf(i);
    }

    public int message(int m, int what) {
        Message found = findMessage(m);
        if (found == null) {
            return NONE;
        }
        switch (what) {
            case 0:
                return found.kind;
            case 1:
                return found.order.number;
            case 2:
                return found.from.number;
            case 3:
                return found.to.number;
            case 4:
                return found.place == null ? NONE : found.place.number;
            case 5:
                return found.readAt;
            case 6:
                return oneIf(found.garbled);
            default:
                return NONE;
        }
    }

    public int told(int order, int what) {
        Order found = findOrder(order);
        if (found == null) {
            return NONE;
        }
        switch (what) {
            case 0:
                return found.from.number;
            case 1:
                return found.to.number;
            case 2:
                return found.sum;
            case 3:
                return found.fee;
            case 4:
                return oneIf(found.known);
            case 5:
                return oneIf(found.paid);
            case 6:
                return oneIf(found.stopped);
            case 7:
                return oneIf(found.paidBack);
            case 8:
                return found.paidAt;
            case 9:
                return found.paymentCount;
            default:
                return NONE;
        }
    }

    public int at(int counter, int what) {
        Counter found = net.findCounter(counter);
        if (found == null) {
            return NO_FIGURE;
        }
        switch (what) {
            case 0:
                return found.coins;
            case 1:
                return oneIf(found.isOpen(now));
            case 2:
                return Math.max(0, awaitedAt(found) - found.coins);
            case 3:
                return found.owed;
            case 4:
                return found.fees;
            case 5:
                return net.queuedAt(found);
            default:
                return NO_FIGURE;
        }
    }

    public int count(int what) {
        switch (what) {
            case 0:
                return now;
            case 1:
                return net.counterCount;
            case 2:
                return net.wireCount;
            case 3:
                return orderCount;
            case 4:
                return messageCount;
            case 5:
                return garbledCount;
            case 6:
                return paidCount;
            case 7:
                return lateStopCount;
            default:
                return NONE;
        }
    }

    private static boolean isWithin(int value, int lowest, int highest) {
        return value >= lowest && value <= highest;
    }

    private static int oneIf(boolean holds) {
        return holds ? 1 : 0;
    }

    private Order findOrder(int number) {
        return number >= 0 && number < orderCount && number < orders.length ? orders[number] : null;
    }

    private Message findMessage(int number) {
        return number >= 0 && number < messageCount && number < messages.length
                ? messages[number] : null;
    }

    private boolean canWrite() {
        return messageCount < messages.length;
    }

    /** The debtor owes the creditor n more; so all that is owed stays nothing together. */
    private static void owe(Counter debtor, Counter creditor, int n) {
        debtor.owed -= n;
        creditor.owed += n;
    }

    private void payOut(Order order) {
        order.paid = true;
        order.paidAt = now;
        order.to.coins -= order.sum;
        owe(order.from, order.to, order.sum);
        paidCount++;
    }

    /** The SUMS that payees may still fetch at a COUNTER. */
    private int awaitedAt(Counter counter) {
        int sums = 0;
        for (int i = 0; i < orderCount; i++) {
            Order order = findOrder(i);
            if (order != null && order.to == counter && order.isAwaited()) {
                sums += order.sum;
            }
        }
        return sums;
    }

    /** PAYMENTS and STOPS go the way of their ORDER, what answers them goes back. */
    private void write(int kind, Order order) {
        if (!canWrite()) {
            return;
        }
        boolean goesBack = kind == STOPPED || kind == REPEAT;
        Signs signs = null;
        if (kind == PAYMENT) {
            signs = new Signs(order, now / MINUTES_OF_DAY);
            order.paymentCount++;
        }
        Message written = new Message(kind, order, goesBack, signs);
        messages[messageCount] = written;
        messageCount++;
        enqueue(written);
    }

    private void enqueue(Message message) {
        Wire wire = net.nextWire(message.place, message.to);
        if (wire != null) {
            wire.queueFrom(message.place).add(message);
        }
    }

    /** Step (1) of a MINUTE. */
    private void takeIn() {
        if (now < nextArrival) {
            return;
        }
        nextArrival = NEVER;
        // What is written meanwhile is in a queue and can't come in this MINUTE.
        int end = messageCount;
        for (int i = 0; i < end; i++) {
            Message message = findMessage(i);
            if (message == null || message.heading == null) {
                continue;
            }
            if (message.arrival > now) {
                nextArrival = Math.min(nextArrival, message.arrival);
            } else {
                message.leaveWire();
                if (message.place == message.to) {
                    read(message);
                } else {
                    enqueue(message);
                }
            }
        }
    }

    /** Step (2) of a MINUTE. */
    private void sendOut() {
        for (int i = 0; i < net.wireCount; i++) {
            Wire wire = net.findWire(i);
            if (wire != null && !wire.isDown(now)) {
                sendFirst(wire.there, now + wire.minutes);
                sendFirst(wire.back, now + wire.minutes);
            }
        }
    }

    private void sendFirst(Queue queue, int arrival) {
        Message message = queue.take();
        if (message != null) {
            message.enterWire(queue.end, arrival);
            nextArrival = Math.min(nextArrival, arrival);
        }
    }

    private void read(Message message) {
        message.readAt = now;
        switch (message.kind) {
            case PAYMENT:
                readPayment(message);
                break;
            case STOP:
                readStop(message.order);
                break;
            case STOPPED:
                payBack(message.order);
                break;
            default:
                readRepeat(message.order);
                break;
        }
    }

    private void readPayment(Message message) {
        if (message.signs != null && !message.signs.fitTest()) {
            message.garbled = true;
            garbledCount++;
            write(REPEAT, message.order);
        } else if (!message.order.stopped) {
            message.order.known = true;
        }
    }

    private void readStop(Order order) {
        if (order.paid) {
            lateStopCount++;
        } else {
            order.stopped = true;
            write(STOPPED, order);
        }
    }

    private void payBack(Order order) {
        order.paidBack = true;
        order.from.coins -= order.sum;
    }

    private void readRepeat(Order order) {
        if (!order.paid && !order.stopped) {
            write(PAYMENT, order);
        }
    }

    /** COUNTERS and WIRES, and the WAYS by them. */
    private static final class Net {
        int counterCount;
        int wireCount;
        private final Counter[] counters;
        private final Wire[] wires;

        // Of each two COUNTERS, at cell(): kept, as messages ask far more often than WIRES come.
        /** LEAST; NO_WAY if there is none. */
        private final int[] leastMinutes;
        /** The WIRE of the fewest MINUTES straight from one to the other; null if none joins them. */
        private final Wire[] straightWires;
        /** The first WIRE of the WAY; null if there is none. */
        private final Wire[] firstWires;

        Net() {
            counters = new Counter[MOST_COUNTERS];
            wires = new Wire[MOST_WIRES];
            leastMinutes = new int[CELLS];
            straightWires = new Wire[CELLS];
            firstWires = new Wire[CELLS];
            for (int i = 0; i < leastMinutes.length; i++) {
                boolean isSame = i / MOST_COUNTERS == i % MOST_COUNTERS;
                leastMinutes[i] = isSame ? 0 : NO_WAY;
            }
        }

        Counter findCounter(int number) {
            return number >= 0 && number < counterCount && number < counters.length
                    ? counters[number] : null;
        }

        Wire findWire(int number) {
            return number >= 0 && number < wireCount && number < wires.length
                    ? wires[number] : null;
        }

        int addCounter(int coins, int opens, int shuts) {
            int number = counterCount;
            if (number >= counters.length) {
                return NONE;
            }
            counters[number] = new Counter(number, coins, opens, shuts);
            counterCount++;
            return number;
        }

        int addWire(Counter a, Counter b, int minutes) {
            int number = wireCount;
            if (number >= wires.length) {
                return NONE;
            }
            Wire added = new Wire(a, b, minutes);
            wires[number] = added;
            wireCount++;
            noteStraight(cell(a.number, b.number), added);
            noteStraight(cell(b.number, a.number), added);
            shortenBy(a.number, b.number, minutes);
            layWays();
            return number;
        }

        boolean hasWay(Counter from, Counter to) {
            return minutesBetween(from, to) < NO_WAY;
        }

        int minutesBetween(Counter from, Counter to) {
            return leastOf(from.number, to.number);
        }

        /** Null if there is no WAY. */
        Wire nextWire(Counter from, Counter to) {
            if (from == null || to == null) {
                return null;
            }
            // The cell is reckoned here, as go() stands seven calls deep already.
            int cell = from.number * MOST_COUNTERS + to.number;
            return cell >= 0 && cell < firstWires.length ? firstWires[cell] : null;
        }

        int queuedAt(Counter counter) {
            int queued = 0;
            for (int i = 0; i < wireCount; i++) {
                Wire wire = findWire(i);
                if (wire != null && wire.touches(counter)) {
                    queued += wire.queueFrom(counter).length;
                }
            }
            return queued;
        }

        private static int cell(int from, int to) {
            return from * MOST_COUNTERS + to;
        }

        private static boolean isCell(int cell) {
            return cell >= 0 && cell < CELLS;
        }

        private int leastOf(int from, int to) {
            int cell = cell(from, to);
            return isCell(cell) ? leastMinutes[cell] : NO_WAY;
        }

        /** Of like ones the WIRE that came first stays. */
        private void noteStraight(int cell, Wire added) {
            if (!isCell(cell)) {
                return;
            }
            Wire known = straightWires[cell];
            if (known == null || added.minutes < known.minutes) {
                straightWires[cell] = added;
            }
        }

        /** A least way by a new WIRE goes over it once, so one round over all pairs is enough. */
        private void shortenBy(int a, int b, int minutes) {
            for (int i = 0; i < leastMinutes.length; i++) {
                int from = i / MOST_COUNTERS;
                int to = i % MOST_COUNTERS;
                int there = leastOf(from, a) + minutes + leastOf(b, to);
                int back = leastOf(from, b) + minutes + leastOf(a, to);
                leastMinutes[i] = Math.min(leastMinutes[i], Math.min(there, back));
            }
        }

        private void layWays() {
            for (int i = 0; i < firstWires.length; i++) {
                firstWires[i] = findFirstWire(i / MOST_COUNTERS, i % MOST_COUNTERS);
            }
        }

        private Wire findFirstWire(int from, int to) {
            int least = leastOf(from, to);
            for (int next = 0; next < counterCount; next++) {
                int cell = cell(from, next);
                Wire wire = isCell(cell) ? straightWires[cell] : null;
                if (wire != null && wire.minutes + leastOf(next, to) == least) {
                    return wire;
                }
            }
            return null;
        }
    }

    private static final class Counter {
        final int number;
        final int opens;
        final int shuts;

        /** The FLOAT. */
        int coins;

        /** What others owe it less what it owes. */
        int owed;

        int fees;

        Counter(int number, int coins, int opens, int shuts) {
            this.number = number;
            this.coins = coins;
            this.opens = opens;
            this.shuts = shuts;
        }

        boolean isOpen(int minute) {
            int time = minute % MINUTES_OF_DAY;
            return time >= opens && time < shuts;
        }
    }

    private static final class Wire {
        final Queue there;
        final Queue back;
        final int minutes;
        int downFrom;
        int downTo;

        Wire(Counter first, Counter second, int minutes) {
            there = new Queue(first, second);
            back = new Queue(second, first);
            this.minutes = minutes;
        }

        boolean isDown(int minute) {
            return minute >= downFrom && minute < downTo;
        }

        boolean touches(Counter counter) {
            return there.start == counter || back.start == counter;
        }

        Queue queueFrom(Counter counter) {
            return there.start == counter ? there : back;
        }
    }

    /** MESSAGES that wait at one end of a WIRE for the other end. */
    private static final class Queue {
        final Counter start;
        final Counter end;
        int length;
        private Message first;
        private Message last;

        Queue(Counter start, Counter end) {
            this.start = start;
            this.end = end;
        }

        void add(Message message) {
            if (last == null) {
                first = message;
            } else {
                last.behind = message;
            }
            last = message;
            length++;
        }

        /** Null if none waits. */
        Message take() {
            Message taken = first;
            if (taken == null) {
                return null;
            }
            first = taken.behind;
            if (first == null) {
                last = null;
            }
            taken.behind = null;
            length--;
            return taken;
        }
    }

    private static final class Order {
        final int number;
        final Counter from;
        final Counter to;
        final int sum;
        final int word;
        int fee;
        boolean known;
        boolean paid;
        boolean stopped;
        boolean paidBack;
        boolean stopWritten;
        int paidAt;
        int paymentCount;

        Order(int number, Counter from, Counter to, int sum, int word) {
            this.number = number;
            this.from = from;
            this.to = to;
            this.sum = sum;
            this.word = word;
            paidAt = NONE;
        }

        boolean isAwaited() {
            return known && !paid && !stopped;
        }
    }

    private static final class Message {
        final int kind;
        final Order order;
        final Counter from;
        final Counter to;

        /** Null if it is no PAYMENT. */
        final Signs signs;

        /** Where it waits or was READ; null on a WIRE. */
        Counter place;

        /** The COUNTER at the end of the WIRE that it is on; else null. */
        Counter heading;

        int arrival;
        int readAt;
        boolean garbled;

        /** The next one in the same queue. */
        Message behind;

        Message(int kind, Order order, boolean goesBack, Signs signs) {
            this.kind = kind;
            this.order = order;
            this.from = goesBack ? order.to : order.from;
            this.to = goesBack ? order.from : order.to;
            this.signs = signs;
            place = from;
            arrival = NONE;
            readAt = NONE;
        }

        boolean isRead() {
            return readAt != NONE;
        }

        void enterWire(Counter end, int minute) {
            place = null;
            heading = end;
            arrival = minute;
        }

        void leaveWire() {
            place = heading;
            heading = null;
            arrival = NONE;
        }
    }

    /** The SIGNS of a PAYMENT with the TEST that was written behind them. */
    private static final class Signs {
        final int test;
        private final int[] digits;
        private final int day;
        private boolean changed;

        Signs(Order order, int day) {
            this.day = day;
            digits = new int[PLACES];
            // Four digits, five and four, with zeros ahead, are those of one long number.
            long rest = (order.number * 100000L + order.sum) * 10000L + order.word;
            for (int i = digits.length - 1; i >= 0; i--) {
                digits[i] = (int) (rest % 10);
                rest /= 10;
            }
            test = testOf(digits, day);
        }

        int digitOf(int place) {
            return place >= 0 && place < digits.length ? digits[place] : NONE;
        }

        boolean fitTest() {
            return testOf(digits, day) == test;
        }

        boolean change(int place, int digit) {
            if (changed || place < 0 || place >= digits.length
                    || digit < 0 || digit > 9 || digits[place] == digit) {
                return false;
            }
            digits[place] = digit;
            changed = true;
            return true;
        }

        private static int testOf(int[] digits, int day) {
            int sum = 0;
            for (int i = 0; i < digits.length; i++) {
                int weight = 1 + (7 * day + 13 * i) % 96;
                sum += digits[i] * weight;
            }
            return sum % 97;
        }
    }

    private static final class Bands {
        private final int[] bounds;
        private final int[] fees;
        private int size;

        Bands() {
            bounds = new int[MOST_BANDS];
            fees = new int[MOST_BANDS];
        }

        boolean add(int bound, int fee) {
            if (size >= MOST_BANDS || bound <= highestBound()) {
                return false;
            }
            bounds[size] = bound;
            fees[size] = fee;
            size++;
            return true;
        }

        int feeOf(int sum) {
            for (int i = 0; i < size && i < MOST_BANDS; i++) {
                if (bounds[i] >= sum) {
                    return fees[i];
                }
            }
            return Math.max(1, sum / 100);
        }

        private int highestBound() {
            return size > 0 && size <= MOST_BANDS ? bounds[size - 1] : 0;
        }
    }
}
