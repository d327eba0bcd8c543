/** Promise 2, counter: each sentence that names a boundary, alone. */
public final class Promise02Test {
    private static final int MIN = Integer.MIN_VALUE;
    private static final int MAX = Integer.MAX_VALUE;

    public static void main(String[] args) {
        numbersAsTheyCome();
        floatIs0To1000000();
        firstTimeIs0To1440();
        secondTimeIs0To1440();
        secondIsAboveTheFirst();
        tenCame();
        openFromTheFirstTime();
        shutAtTheSecondTime();
        hoursOfEachDay();
        openWhereNowIsTheLastMinute();
        refusedChangesNothing();
        refusedWhenTenCameChangesNothing();
        Check.end("Promise02Test");
    }

    private static void taken(int coins, int opens, int shuts) {
        WireMoney x = new WireMoney();
        Check.due(Refusal.name("counter", coins, opens, shuts), x.counter(coins, opens, shuts), 0);
        Check.due("its FLOAT", x.at(0, 0), coins);
        Check.due("COUNTERS", x.count(1), 1);
    }

    private static void refused(int coins, int opens, int shuts) {
        WireMoney x = new WireMoney();
        Check.due(Refusal.name("counter", coins, opens, shuts), x.counter(coins, opens, shuts), -1);
        Check.due("COUNTERS", x.count(1), 0);
    }

    private static void numbersAsTheyCome() {
        Check.sentence(2, "A COUNTER comes: its number");
        WireMoney x = new WireMoney();
        Check.due("the first", x.counter(5, 0, 1), 0);
        Check.due("a refused one", x.counter(-1, 0, 1), -1);
        Check.due("the second", x.counter(6, 0, 1), 1);
        x.go(2000);
        Check.due("one that comes later", x.counter(7, 0, 1440), 2);
        Check.due("FLOAT of 0", x.at(0, 0), 5);
        Check.due("FLOAT of 1", x.at(1, 0), 6);
        Check.due("FLOAT of 2", x.at(2, 0), 7);
    }

    private static void floatIs0To1000000() {
        Check.sentence(2, "NONE if its FLOAT isn't 0 .. 1000000");
        taken(0, 0, 1440);
        taken(1, 0, 1440);
        taken(999999, 0, 1440);
        taken(1000000, 0, 1440);
        refused(-1, 0, 1440);
        refused(1000001, 0, 1440);
        refused(MIN, 0, 1440);
        refused(MAX, 0, 1440);
    }

    private static void firstTimeIs0To1440() {
        Check.sentence(2, "NONE if TIMES are not 0 .. 1440 (the first)");
        taken(5, 0, 1440);
        taken(5, 1, 1440);
        taken(5, 1439, 1440);
        refused(5, -1, 1440);
        refused(5, 1440, 1440);
        refused(5, 1440, 1441);
        refused(5, 1441, 1442);
        refused(5, MIN, 1440);
        refused(5, MAX, 1440);
    }

    private static void secondTimeIs0To1440() {
        Check.sentence(2, "NONE if TIMES are not 0 .. 1440 (the second)");
        taken(5, 0, 1);
        taken(5, 0, 1439);
        taken(5, 0, 1440);
        refused(5, 0, 0);
        refused(5, 0, 1441);
        refused(5, -2, -1);
        refused(5, 0, MIN);
        refused(5, 0, MAX);
        refused(5, MIN, MAX);
    }

    private static void secondIsAboveTheFirst() {
        Check.sentence(2, "NONE if the second is not above the first");
        taken(5, 700, 701);
        refused(5, 700, 700);
        refused(5, 701, 700);
        refused(5, 1440, 0);
        refused(5, MAX, MIN);
    }

    private static void tenCame() {
        Check.sentence(2, "NONE if 10 came");
        WireMoney x = Make.counters(9);
        Check.due("the tenth", x.counter(77, 0, 1440), 9);
        Check.due("the eleventh", x.counter(77, 0, 1440), -1);
        Check.due("the eleventh again", x.counter(0, 0, 1), -1);
        Check.due("COUNTERS", x.count(1), 10);
        Check.due("FLOAT of the tenth", x.at(9, 0), 77);
        Check.due("FLOAT of the eleventh", x.at(10, 0), MIN);
    }

    private static void openFromTheFirstTime() {
        Check.sentence(2, "OPEN from a TIME");
        WireMoney x = new WireMoney();
        x.counter(0, 5, 1440);
        Check.due("at 0", x.at(0, 1), 0);
        x.go(4);
        Check.due("at 4", x.at(0, 1), 0);
        x.go(1);
        Check.due("at 5", x.at(0, 1), 1);
        x.go(1);
        Check.due("at 6", x.at(0, 1), 1);
    }

    private static void shutAtTheSecondTime() {
        Check.sentence(2, "OPEN .. to another one (that one not)");
        WireMoney x = new WireMoney();
        x.counter(0, 0, 7);
        x.counter(0, 6, 7);
        x.go(6);
        Check.due("at 6", x.at(0, 1), 1);
        Check.due("at 6, a MINUTE alone", x.at(1, 1), 1);
        x.go(1);
        Check.due("at 7", x.at(0, 1), 0);
        Check.due("at 7, a MINUTE alone", x.at(1, 1), 0);
    }

    private static void hoursOfEachDay() {
        Check.sentence(2, "the DAY is NOW by 1440 (cut), the TIME the rest");
        WireMoney x = new WireMoney();
        x.counter(0, 0, 1440);
        x.counter(0, 0, 1);
        x.counter(0, 1439, 1440);
        int[][] due = {{1439, 1, 0, 1}, {1440, 1, 1, 0}, {1441, 1, 0, 0}, {2879, 1, 0, 1},
            {2880, 1, 1, 0}};
        for (int[] d : due) {
            Make.until(x, d[0]);
            for (int i = 0; i < 3; i++) {
                Check.due("at " + d[0] + " the COUNTER " + i, x.at(i, 1), d[1 + i]);
            }
        }
    }

    /** 20000 is TIME 1280 of DAY 13. */
    private static void openWhereNowIsTheLastMinute() {
        Check.sentence(2, "the TIME the rest (NOW is 20000)");
        WireMoney x = Make.until(new WireMoney(), 20000);
        x.counter(0, 1279, 1280);
        x.counter(0, 1280, 1281);
        x.counter(0, 1281, 1282);
        Check.due("to 1280", x.at(0, 1), 0);
        Check.due("from 1280 to 1281", x.at(1, 1), 1);
        Check.due("from 1281", x.at(2, 1), 0);
    }

    private static void refusedChangesNothing() {
        Check.sentence(2, "What is refused changes nothing.");
        int[][] wrong = {{-1, 0, 1440}, {1000001, 0, 1440}, {5, -1, 1440}, {5, 1440, 1440},
            {5, 0, 1441}, {5, 8, 8}, {5, 9, 8}};
        for (int[] w : wrong) {
            Refusal.due(Refusal.name("counter", w), Make::busy, x -> x.counter(w[0], w[1], w[2]), -1);
        }
    }

    private static void refusedWhenTenCameChangesNothing() {
        Check.sentence(2, "What is refused changes nothing. (10 came)");
        Refusal.due("the eleventh", Make::full, x -> x.counter(5, 0, 1440), -1);
    }
}
