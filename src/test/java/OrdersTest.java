/** Promises 16 to 19, 21 to 23 and 25: best, order, just, first, gains, changes, changed, serves. */
public final class OrdersTest {
    private static final Check check = new Check();
    private static final String FIVE = "person a 50;person b 30;person c 40;person d 20;person e 10;";
    private static final long ROW = Check.row(0, 1, 2, 3);

    public static void main(String[] args) {
        extremes();
        justSo();
        gaining();
        changing();
        serving();
        eightCarriers();
        check.end();
    }

    /** b, c: 43, 21 go on, 22, 11 go on, 11 kept; c, b: 22 kept, 21, 10. */
    private static void extremes() {
        HalfHands hands = Check.told(FIVE);
        check.same("best", hands.best(4, ROW, 43, 0), 11);
        check.same("its order", hands.order(4, ROW, 43, 0), Check.row(0, 1, 2, 3));
        check.same("worst", hands.best(4, ROW, 43, 1), 10);
        check.same("its order", hands.order(4, ROW, 43, 1), Check.row(0, 2, 1, 3));
        check.same("of several the first", hands.order(4, Check.row(0, 2, 1, 3), 40, 0), ROW);
        check.same("of several the first, worst", hands.order(4, Check.row(0, 2, 1, 3), 40, 1), ROW);
        check.same("the row told doesn't matter", hands.order(4, Check.row(0, 2, 1, 3), 43, 0), ROW);
        check.same("no carrier", hands.order(2, Check.row(4, 0), 5, 1), Check.row(4, 0));
        check.same("one carrier", hands.order(3, Check.row(4, 2, 0), 5, 0), Check.row(4, 2, 0));
        check.same("0 coins", hands.best(4, ROW, 0, 0), 0);
        HalfHands goes = Check.told(FIVE + "law 0;");
        check.same("the worst is the best, too", goes.best(4, ROW, 43, 1), 11);
        check.same("its order", goes.order(4, Check.row(0, 2, 1, 3), 43, 1), ROW);
        HalfHands stays = Check.told(FIVE + "law 1;");
        check.same("the best is the worst, too", stays.best(4, ROW, 43, 0), 10);
        check.same("its order", stays.order(4, Check.row(0, 2, 1, 3), 43, 0), ROW);
        check.same("person 0 may carry", hands.order(4, Check.row(4, 1, 0, 3), 40, 0), Check.row(4, 0, 1, 3));
        check.same("what 2", hands.best(4, ROW, 43, 2), -1);
        check.same("what -1", hands.best(4, ROW, 43, -1), -1);
        check.same("what 2 of order", hands.order(4, ROW, 43, 2), -1);
        check.same("coins -1", hands.best(4, ROW, -1, 0), -1);
        check.same("coins 1000000", hands.best(4, ROW, 1000000, 0), -1);
        check.same("coins -1 of order", hands.order(4, ROW, -1, 0), -1);
    }

    private static void justSo() {
        HalfHands hands = Check.told(FIVE);
        check.same("11", hands.just(4, ROW, 43, 11), 1);
        check.same("10", hands.just(4, ROW, 43, 10), 1);
        check.same("12", hands.just(4, ROW, 43, 12), 0);
        check.same("all", hands.just(4, ROW, 40, 10), 2);
        check.same("all of three", hands.just(5, Check.row(0, 1, 2, 3, 4), 80, 10), 6);
        check.same("no carrier", hands.just(2, Check.row(0, 1), 9, 9), 1);
        check.same("no carrier, other", hands.just(2, Check.row(0, 1), 9, 8), 0);
        check.same("first of 10", hands.first(4, ROW, 43, 10), Check.row(0, 2, 1, 3));
        check.same("first of 11", hands.first(4, Check.row(0, 2, 1, 3), 43, 11), ROW);
        check.same("first of 12", hands.first(4, ROW, 43, 12), -2);
        check.same("first of all", hands.first(5, Check.row(0, 3, 2, 1, 4), 80, 10), Check.row(0, 1, 2, 3, 4));
        check.same("t -1", hands.just(4, ROW, 43, -1), -1);
        check.same("t 1000000", hands.just(4, ROW, 43, 1000000), -1);
        check.same("t 999999", hands.just(4, ROW, 43, 999999), 0);
        check.same("t -1 of first", hands.first(4, ROW, 43, -1), -1);
        check.same("t 1000000 of first", hands.first(4, ROW, 43, 1000000), -1);
        check.same("coins 1000000", hands.just(4, ROW, 1000000, 1), -1);
        check.same("coins -1 of first", hands.first(4, ROW, -1, 1), -1);
    }

    private static void gaining() {
        HalfHands hands = Check.told(FIVE);
        // b, c: b keeps 21, c 11; c, b: c keeps 22, b (older than d) 11
        check.same("c most", hands.gains(4, ROW, 43, 2, 0), 22);
        check.same("c at", hands.gains(4, ROW, 43, 2, 1), 1);
        check.same("c least", hands.gains(4, ROW, 43, 2, 2), 11);
        check.same("c at", hands.gains(4, ROW, 43, 2, 3), 2);
        check.same("b most", hands.gains(4, ROW, 43, 1, 0), 21);
        check.same("b at", hands.gains(4, ROW, 43, 1, 1), 1);
        check.same("b least", hands.gains(4, ROW, 43, 1, 2), 11);
        check.same("b at", hands.gains(4, ROW, 43, 1, 3), 2);
        // of 1 coin: b, c: b hands it on, c keeps it; c, b: c keeps it, b gets none
        check.same("c of one coin", hands.gains(4, ROW, 1, 2, 0), 1);
        check.same("in the first order at", hands.gains(4, ROW, 1, 2, 1), 2);
        check.same("c's least", hands.gains(4, ROW, 1, 2, 2), 1);
        check.same("b of one coin", hands.gains(4, ROW, 1, 1, 0), 0);
        check.same("in the first order at", hands.gains(4, ROW, 1, 1, 1), 1);
        check.same("the sender", hands.gains(4, ROW, 43, 0, 0), -1);
        check.same("who gets", hands.gains(4, ROW, 43, 3, 0), -1);
        check.same("nobody of the row", hands.gains(4, ROW, 43, 4, 0), -1);
        check.same("no person", hands.gains(4, ROW, 43, 5, 0), -1);
        check.same("person -1", hands.gains(4, ROW, 43, -1, 0), -1);
        check.same("what 4", hands.gains(4, ROW, 43, 1, 4), -1);
        check.same("what -1", hands.gains(4, ROW, 43, 1, -1), -1);
        check.same("coins -1", hands.gains(4, ROW, -1, 1, 0), -1);
        check.same("coins 1000000", hands.gains(4, ROW, 1000000, 1, 0), -1);
        check.same("no carrier", hands.gains(2, Check.row(0, 1), 5, 1, 0), -1);
    }

    private static void changing() {
        HalfHands hands = Check.told(FIVE);
        check.same("none needed", hands.changes(4, ROW, 43, 11), 0);
        check.same("the row itself", hands.changed(4, ROW, 43, 11), ROW);
        check.same("one", hands.changes(4, ROW, 43, 10), 1);
        check.same("the row behind it", hands.changed(4, ROW, 43, 10), Check.row(0, 2, 1, 3));
        check.same("no order does", hands.changes(4, ROW, 43, 9), -2);
        check.same("no order does", hands.changed(4, ROW, 43, 9), -2);
        check.same("no carrier", hands.changes(2, Check.row(0, 1), 9, 9), 0);
        check.same("no carrier, other", hands.changes(2, Check.row(0, 1), 9, 8), -2);
        // only he of age 40 keeps an odd one, and only at place 3: from c, b, d he goes two places on
        HalfHands placed = Check.told(FIVE + "law place=3 and age=40;");
        long row = Check.row(0, 2, 1, 3, 4);
        check.same("as it is", placed.arrives(5, row, 4), 1);
        check.same("two changes", placed.changes(5, row, 4, 0), 2);
        check.same("the row behind them", placed.changed(5, row, 4, 0), Check.row(0, 1, 3, 2, 4));
        // any who is 30 or 20 old and first keeps it: d, c, b needs none; c, b, d and c, d, b one each
        HalfHands several = Check.told(FIVE + "law place=1 and age<>40;");
        check.same("one change", several.changes(5, Check.row(0, 2, 3, 1, 4), 1, 0), 1);
        check.same("of those the first", several.changed(5, Check.row(0, 2, 3, 1, 4), 1, 0), Check.row(0, 3, 2, 1, 4));
        HalfHands first = Check.told(FIVE + "law place=2 and age=30;");
        check.same("two ways of one change", first.changes(5, Check.row(0, 1, 2, 3, 4), 2, 0), 1);
        check.same("the first of them", first.changed(5, Check.row(0, 1, 2, 3, 4), 2, 0), Check.row(0, 2, 1, 3, 4));
        check.same("t -1", hands.changes(4, ROW, 43, -1), -1);
        check.same("t 1000000", hands.changes(4, ROW, 43, 1000000), -1);
        check.same("t -1 of changed", hands.changed(4, ROW, 43, -1), -1);
        check.same("t 1000000 of changed", hands.changed(4, ROW, 43, 1000000), -1);
        check.same("coins -1", hands.changes(4, ROW, -1, 1), -1);
        check.same("coins 1000000 of changed", hands.changed(4, ROW, 1000000, 1), -1);
    }

    private static void serving() {
        HalfHands hands = Check.told(FIVE);
        check.same("rising to the end", hands.serves(4, ROW, 50), 0);
        check.same("refuted by 3", hands.serves(4, Check.row(0, 2, 1, 3), 50), 3);
        check.same("by 3 alone", hands.serves(4, Check.row(0, 2, 1, 3), 3), 3);
        check.same("not by 1, 2", hands.serves(4, Check.row(0, 2, 1, 3), 2), 0);
        check.same("no carrier", hands.serves(2, Check.row(0, 1), 50), 0);
        check.same("0", hands.serves(4, ROW, 0), -1);
        check.same("51", hands.serves(4, ROW, 51), -1);
        check.same("-1", hands.serves(4, ROW, -1), -1);
    }

    private static void eightCarriers() {
        HalfHands hands = Check.told("person a 1;person b 2;person c 3;person d 4;person e 5;person f 6;person g 7;"
                + "person h 8;person i 9;person j 10;");
        long row = Check.row(0, 8, 7, 6, 5, 4, 3, 2, 1, 9);
        check.same("best", hands.best(10, row, 1, 0), 1);
        check.same("its order", hands.order(10, row, 1, 0), 0x9876543210L);
        check.same("how many", hands.just(10, row, 1, 1), 1);
        check.same("the others", hands.just(10, row, 1, 0), 40319);
        check.same("the first of the others", hands.first(10, row, 1, 0), Check.row(0, 1, 2, 3, 4, 5, 6, 8, 7, 9));
        check.same("all changes", hands.changes(10, row, 1, 1), 28);
        check.same("all orders", hands.just(10, row, 256, 1), 40320);
        check.same("h gains it", hands.gains(10, row, 1, 8, 2), 0);
        check.same("and least in the first order", hands.gains(10, row, 1, 8, 3), 8);
        check.same("serves", hands.serves(10, 0x9876543210L, 50), 0);
        check.same("refuted by", hands.serves(10, row, 50), 1);
    }
}
