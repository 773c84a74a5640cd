/**
 * The edges of ORDERS (part 3 of the Terms) and of promises 16 to 19, 21 to 23 and 25; above each method is the sentence
 * of the document that it is for. What no ROW is and how many coins it may be sent is in EdgeRowTest.
 */
public final class EdgeOrdersTest {
    private static final Check check = new Check();
    private static final long TEN = 0x9876543210L;
    /** The CARRIERS of TEN in the last of all ORDERS. */
    private static final long LAST = 0x9123456780L;

    public static void main(String[] args) {
        whatOfBest();
        eachByItself();
        oneOrder();
        ofSeveralTheFirst();
        leastPersonAhead();
        betweenTwoNumbers();
        namesInAnOrder();
        numberOfJust();
        howManyOrders();
        noOrder();
        whoGains();
        whatOfGains();
        gainsOfOne();
        gainsOfNothing();
        gainsAtThePlace();
        numberOfChanges();
        fewestChanges();
        mostChanges();
        changedIsTheFirst();
        noChange();
        mostOfServes();
        refutedAtTheEnd();
        servesAlways();
        check.end();
    }

    private static HalfHands ten(String more) {
        return Check.told(Check.people(10) + more);
    }

    /** Promise 16: "BEST ORDER, what 0 ..; WORST, what 1. NONE"; promise 17: "BEST (what 0), WORST (1) .. NONE". */
    private static void whatOfBest() {
        HalfHands hands = ten("");
        for (int n : new int[] {2, 3, 4, 10}) {
            check.bounds("what of best", 0, 1, -1, what -> hands.best(n, TEN, 9, what));
            check.bounds("what of order", 0, 1, -1, what -> hands.order(n, TEN, 9, what));
        }
    }

    /** Each call on a new object, so that it finds nothing of another one. */
    private static void eachByItself() {
        String law = "law place=2 and age=11;";
        long row = Check.row(0, 1, 2, 3, 4);
        check.same("most", Check.told(Check.people(5) + law).best(5, row, 2, 0), 1);
        check.same("least", Check.told(Check.people(5) + law).best(5, row, 2, 1), 0);
        check.same("best", Check.told(Check.people(5) + law).order(5, row, 2, 0), row);
        check.same("worst", Check.told(Check.people(5) + law).order(5, row, 2, 1), Check.row(0, 2, 1, 3, 4));
        check.same("just", Check.told(Check.people(5) + law).just(5, row, 2, 0), 2);
        check.same("first", Check.told(Check.people(5) + law).first(5, row, 2, 0), Check.row(0, 2, 1, 3, 4));
        check.same("gains", Check.told(Check.people(5) + law).gains(5, row, 2, 1, 0), 1);
        check.same("at which place", Check.told(Check.people(5) + law).gains(5, row, 2, 1, 1), 1);
        check.same("changes", Check.told(Check.people(5) + law).changes(5, row, 2, 0), 1);
        check.same("changed", Check.told(Check.people(5) + law).changed(5, row, 2, 0), Check.row(0, 2, 1, 3, 4));
        check.same("worth", Check.told(Check.people(5) + law).worth(5, row, 2, 1), -1);
        check.same("serves", Check.told(Check.people(5) + law).serves(5, Check.row(0, 2, 1, 3, 4), 9), 1);
    }

    /** "its CARRIERS in all orders": of none and of one CARRIER there is one. */
    private static void oneOrder() {
        HalfHands hands = ten("");
        for (int coins : new int[] {0, 1, 9, 999998, 999999}) {
            check.same("none, most", hands.best(2, 0x79, coins, 0), coins);
            check.same("none, least", hands.best(2, 0x79, coins, 1), coins);
            check.same("none, best", hands.order(2, 0x79, coins, 0), 0x79);
            check.same("none, worst", hands.order(2, 0x79, coins, 1), 0x79);
            check.same("none, how many", hands.just(2, 0x79, coins, coins), 1);
            check.same("none, first", hands.first(2, 0x79, coins, coins), 0x79);
            check.same("none, changes", hands.changes(2, 0x79, coins, coins), 0);
            check.same("none, changed", hands.changed(2, 0x79, coins, coins), 0x79);
            int left = (coins + 1) / 2;
            check.same("one, most", hands.best(3, 0x720, coins, 0), left);
            check.same("one, least", hands.best(3, 0x720, coins, 1), left);
            check.same("one, best", hands.order(3, 0x720, coins, 0), 0x720);
            check.same("one, how many", hands.just(3, 0x720, coins, left), 1);
            check.same("one, changes", hands.changes(3, 0x720, coins, left), 0);
        }
        check.same("none, serves", hands.serves(2, 0x79, 50), 0);
        check.same("one, serves", hands.serves(3, 0x720, 50), 0);
    }

    /** "BEST, WORST: that by which most, least ARRIVES, of several the first". */
    private static void ofSeveralTheFirst() {
        for (String law : new String[] {"law 0;", "law 1;", "law 1/0;", ""}) {
            HalfHands hands = ten(law);
            for (int coins : new int[] {0, 256, 999936}) {
                check.same("best of all alike", hands.order(10, LAST, coins, 0), TEN);
                check.same("worst of all alike", hands.order(10, LAST, coins, 1), TEN);
                check.same("first of all alike", hands.first(10, LAST, coins, coins / 256), TEN);
            }
        }
        // only c at place 2 keeps an odd one: b, c, d and d, c, b are worst, b, d, c is the first of the best
        HalfHands hands = Check.told(Check.people(5) + "law place=2 and age=12;");
        check.same("worst", hands.order(5, 0x41230, 2, 1), 0x43210);
        check.same("best", hands.order(5, 0x41230, 2, 0), 0x42310);
        check.same("just 0", hands.just(5, 0x41230, 2, 0), 2);
        check.same("just 1", hands.just(5, 0x41230, 2, 1), 4);
        check.same("first of 0", hands.first(5, 0x41230, 2, 0), 0x43210);
        check.same("first of 1", hands.first(5, 0x41230, 2, 1), 0x42310);
    }

    /** "(by places: the least PERSON ahead first)": the number of the PERSON counts, not its place in the ROW. */
    private static void leastPersonAhead() {
        HalfHands hands = ten("law 0;");
        check.same("9, 0, 5 between 3 and 4", hands.order(5, Check.row(3, 9, 0, 5, 4), 8, 0), Check.row(3, 0, 5, 9, 4));
        check.same("the sender and who gets stay", hands.order(4, Check.row(9, 8, 1, 0), 8, 1), Check.row(9, 1, 8, 0));
    }

    /** What ARRIVES is one of two numbers: best and worst where they meet, and one step to each side. */
    private static void betweenTwoNumbers() {
        HalfHands hands = ten("");
        check.same("1, most", hands.best(10, TEN, 1, 0), 1);
        check.same("1, least", hands.best(10, TEN, 1, 1), 0);
        // the last one is younger than who gets, so that he never keeps the odd one
        check.same("255, most", hands.best(10, TEN, 255, 0), 1);
        check.same("255, least", hands.best(10, TEN, 255, 1), 1);
        check.same("256, most", hands.best(10, TEN, 256, 0), 1);
        check.same("256, least", hands.best(10, TEN, 256, 1), 1);
        check.same("257, most", hands.best(10, TEN, 257, 0), 2);
        check.same("257, least", hands.best(10, TEN, 257, 1), 1);
        HalfHands one = Check.told("person a 50;person b 30;person c 40;person d 20;");
        check.same("one ORDER alone is worst", one.just(4, 0x3210, 43, 10), 1);
        check.same("least", one.best(4, 0x3210, 43, 1), 10);
        check.same("one ORDER alone is best", one.just(4, 0x3210, 43, 11), 1);
        check.same("most", one.best(4, 0x3210, 43, 0), 11);
        check.same("0, most", hands.best(10, TEN, 0, 0), 0);
        check.same("999999, most", hands.best(10, TEN, 999999, 0), 3907);
        check.same("999999, least", hands.best(10, TEN, 999999, 1), 3906);
    }

    /** "by THE ODD ONE": coins and place are those in his HAND, the hour is 0. */
    private static void namesInAnOrder() {
        // 5 coins: 3 go on, of which he keeps 2; 4 and 6 coins: 2 and 3
        HalfHands coins = Check.told(Check.people(4) + "law coins=3;");
        int[] due = {0, 1, 1, 1, 1, 1, 1, 2, 2};
        for (int sent = 0; sent < due.length; sent++) {
            check.same("most of " + sent, coins.best(4, 0x3210, sent, 0), due[sent]);
            check.same("least of " + sent, coins.best(4, 0x3210, sent, 1), due[sent]);
            check.same("as it ARRIVES", coins.arrives(4, 0x3210, sent), due[sent]);
        }
        HalfHands never = Check.told(Check.people(4) + "law hour;");
        HalfHands always = Check.told(Check.people(4) + "law hour=0;");
        never.hours(1);
        always.hours(1);
        check.same("hour, most", never.best(4, 0x3210, 3, 1), 1);
        check.same("hour 0, least", always.best(4, 0x3210, 3, 0), 0);
        check.same("hour, he keeps", never.gains(4, 0x3210, 3, 1, 0), 1);
        check.same("hour 0, he keeps", always.gains(4, 0x3210, 3, 1, 0), 2);
    }

    /** Promise 18: "NONE: no such ones (t 0 .. 999999)"; promise 19 likewise. */
    private static void numberOfJust() {
        HalfHands hands = ten("");
        check.bounds("t of just", 0, 999999, -1, t -> hands.just(4, TEN, 9, t));
        check.bounds("t of first", 0, 999999, -1, t -> hands.first(4, TEN, 9, t));
        check.bounds("t of just, no CARRIER", 0, 999999, -1, t -> hands.just(2, TEN, 999999, t));
        check.bounds("t of first, no CARRIER", 0, 999999, -1, t -> hands.first(2, TEN, 999999, t));
        check.same("just 999999", hands.just(2, TEN, 999999, 999999), 1);
        check.same("just 999998", hands.just(2, TEN, 999999, 999998), 0);
        check.same("first 999999", hands.first(2, TEN, 999999, 999999), 0x10);
    }

    /** "how many ORDERS there are": all of them at most. */
    private static void howManyOrders() {
        HalfHands hands = ten("");
        int all = 1;
        for (int n = 2; n <= 10; n++) {
            all *= Math.max(1, n - 2);
            int unit = 1 << n - 2;
            check.same("all of " + n, hands.just(n, TEN, unit, 1), all);
            check.same("no more of " + n, hands.just(n, TEN, unit, 2), 0);
            check.same("no fewer of " + n, hands.just(n, TEN, unit, 0), 0);
            int few = hands.just(n, TEN, 2 * unit - 1, 1);
            int many = hands.just(n, TEN, 2 * unit - 1, 2);
            check.same("all by both numbers of " + n, few + many, n == 2 ? hands.just(2, TEN, 1, 1) : all);
        }
    }

    /** Promise 18: 0 ORDERS; promise 19: "-2: none"; promises 22, 23: "-2: no ORDER does". */
    private static void noOrder() {
        HalfHands hands = ten("");
        for (int t : new int[] {0, 3, 4, 999999}) {
            check.same("just " + t, hands.just(10, TEN, 300, t), 0);
            check.same("first " + t, hands.first(10, TEN, 300, t), -2);
            check.same("changes " + t, hands.changes(10, TEN, 300, t), -2);
            check.same("changed " + t, hands.changed(10, TEN, 300, t), -2);
        }
        for (int t : new int[] {1, 2}) {
            check.same("just " + t, hands.just(10, TEN, 300, t) > 0, true);
            check.same("first " + t, hands.first(10, TEN, 300, t) > 0, true);
            check.same("changes " + t, hands.changes(10, TEN, 300, t) >= 0, true);
            check.same("changed " + t, hands.changed(10, TEN, 300, t) > 0, true);
        }
        HalfHands goes = ten("law 0;");
        check.same("none keeps it", goes.just(10, TEN, 300, 1), 0);
        check.same("first", goes.first(10, TEN, 300, 1), -2);
        check.same("changes", goes.changes(10, TEN, 300, 1), -2);
        check.same("changed", goes.changed(10, TEN, 300, 1), -2);
    }

    /** Promise 21: "GAINS of a PERSON who is a CARRIER of a ROW .. NONE: no such ones." */
    private static void whoGains() {
        HalfHands hands = ten("");
        for (int what = 0; what <= 3; what++) {
            int number = what;
            check.bounds("PERSON", 1, 8, -1, person -> hands.gains(10, TEN, 9, person, number));
        }
        for (int person = -1; person <= 10; person++) {
            boolean carrier = person == 2 || person == 7;
            check.same("PERSON " + person, hands.gains(4, Check.row(5, 7, 2, 0), 9, person, 0) >= 0, carrier);
            check.same("of no CARRIER, " + person, hands.gains(2, Check.row(5, 0), 9, person, 0), -1);
            check.same("of one, " + person, hands.gains(3, Check.row(5, 7, 0), 9, person, 0) >= 0, person == 7);
        }
        check.same("a PERSON of bits above", hands.gains(3, 0x4210, 9, 3, 0), -1);
    }

    /** Promise 21: "what 0: the most, 1: at which place, 2: the least, 3: at which place". */
    private static void whatOfGains() {
        HalfHands hands = ten("");
        check.bounds("what of gains", 0, 3, -1, what -> hands.gains(4, TEN, 9, 1, what));
        check.bounds("what of gains", 0, 3, -1, what -> hands.gains(10, TEN, 0, 8, what));
    }

    private static long[] gains(HalfHands hands, int n, long row, int coins, int person) {
        long[] gains = new long[4];
        for (int what = 0; what <= 3; what++) {
            gains[what] = hands.gains(n, row, coins, person, what);
        }
        return gains;
    }

    /** Promise 21, of the one ORDER that there is. */
    private static void gainsOfOne() {
        HalfHands hands = ten("");
        check.all("of one CARRIER", gains(hands, 3, Check.row(0, 5, 3), 9, 5), 5, 1, 5, 1);
        check.all("who is younger", gains(hands, 3, Check.row(0, 3, 5), 9, 3), 4, 1, 4, 1);
        check.all("of the most coins", gains(hands, 3, Check.row(0, 5, 3), 999999, 5), 500000, 1, 500000, 1);
    }

    /** "at which place in the first such (1 up)": of 0 coins all ORDERS are such, so it is the first of all. */
    private static void gainsOfNothing() {
        HalfHands hands = ten("");
        for (int person = 1; person <= 8; person++) {
            check.all("of 0 coins, " + person, gains(hands, 10, LAST, 0, person), 0, person, 0, person);
        }
    }

    /** "the most (least) that he keeps by any ORDER": at the first place, at the last, and by whom is behind him. */
    private static void gainsAtThePlace() {
        HalfHands stays = ten("law 1;");
        HalfHands goes = ten("law 0;");
        for (int person = 1; person <= 8; person++) {
            check.all("stays, " + person, gains(stays, 10, TEN, 999999, person), 500000, 1, 3906, 8);
            check.all("goes, " + person, gains(goes, 10, TEN, 999999, person), 499999, 1, 3906, 8);
            // of 1 coin that stays, the first place alone keeps it; the first ORDER without it has 1 ahead
            check.all("one coin, " + person, gains(stays, 10, TEN, 1, person), 1, 1, 0, person == 1 ? 2 : person);
        }
        // b, c, d between a and e; c keeps an odd one only towards b (11 old)
        HalfHands behind = Check.told(Check.people(5) + "law next=11;");
        check.all("c of 1 coin", gains(behind, 5, 0x43210, 1, 2), 1, 1, 0, 2);
        // c, b, d is the first ORDER in which c is towards b with the coin, d, c, b the other one
        check.all("d of 1 coin", gains(behind, 5, 0x43210, 1, 3), 1, 2, 0, 3);
    }

    /** Promises 22, 23: "NONE: no such ones", t as of JUST. */
    private static void numberOfChanges() {
        HalfHands hands = ten("");
        check.bounds("t of changes", 0, 999999, -1, t -> hands.changes(4, TEN, 9, t));
        check.bounds("t of changed", 0, 999999, -1, t -> hands.changed(4, TEN, 9, t));
        check.bounds("t of changes, no CARRIER", 0, 999999, -1, t -> hands.changes(2, TEN, 999999, t));
        check.bounds("t of changed, no CARRIER", 0, 999999, -1, t -> hands.changed(2, TEN, 999999, t));
        check.same("changes 999999", hands.changes(2, TEN, 999999, 999999), 0);
        check.same("changed 999999", hands.changed(2, TEN, 999999, 999999), 0x10);
        check.same("changes 999998", hands.changes(2, TEN, 999999, 999998), -2);
    }

    /** "two CARRIERS that are neighbours change over: the fewest so that just t ARRIVES". */
    private static void fewestChanges() {
        // only b keeps an odd one, at one place alone: of so many coins that it is odd there
        for (int place = 1; place <= 4; place++) {
            HalfHands hands = Check.told(Check.people(6) + "law age=11 and place=" + place + ";");
            for (int home = 1; home <= 4; home++) {
                int[] row = {0, 2, 3, 4, 0, 5};
                for (int i = 4; i > home; i--) {
                    row[i] = row[i - 1];
                }
                row[home] = 1;
                int coins = 1 << place - 1;
                check.same("from " + home + " to " + place, hands.changes(6, Check.row(row), coins, 0),
                        Math.abs(place - home));
                check.same("the other number", hands.changes(6, Check.row(row), coins, 1), place == home ? 1 : 0);
            }
        }
    }

    /** "the fewest so that just t ARRIVES": none at least, all pairs at most. */
    private static void mostChanges() {
        HalfHands hands = ten("");
        check.same("all of eight", hands.changes(10, LAST, 1, 1), 28);
        check.same("the ROW behind them", hands.changed(10, LAST, 1, 1), TEN);
        check.same("none", hands.changes(10, TEN, 1, 1), 0);
        check.same("the ROW itself", hands.changed(10, TEN, 1, 1), TEN);
        check.same("one", hands.changes(10, TEN, 1, 0), 1);
        check.same("the first of those with one", hands.changed(10, TEN, 1, 0), 0x9786543210L);
    }

    /** "the ORDER behind them (of those the first)": of those with the fewest changes, and not of all. */
    private static void changedIsTheFirst() {
        HalfHands hands = Check.told(Check.people(5) + "law place=2 and age=11;");
        // d, c, b: b to place 2 is one change, d, b, c; the first ORDER with b there would be c, b, d
        check.same("one change", hands.changes(5, Check.row(0, 3, 2, 1, 4), 2, 0), 1);
        check.same("d, b, c", hands.changed(5, Check.row(0, 3, 2, 1, 4), 2, 0), Check.row(0, 3, 1, 2, 4));
        check.same("the first of all", hands.first(5, Check.row(0, 3, 2, 1, 4), 2, 0), Check.row(0, 2, 1, 3, 4));
        // d, b, c: b away from place 2 is one change by either neighbour: b, d, c is ahead of d, c, b
        check.same("one change", hands.changes(5, Check.row(0, 3, 1, 2, 4), 2, 1), 1);
        check.same("b, d, c", hands.changed(5, Check.row(0, 3, 1, 2, 4), 2, 1), Check.row(0, 1, 3, 2, 4));
        check.same("c, b, d", hands.changed(5, Check.row(0, 2, 1, 3, 4), 2, 1), Check.row(0, 1, 2, 3, 4));
    }

    /** "the fewest": none, if it is so already, though other ORDERS that do it come first. */
    private static void noChange() {
        HalfHands hands = ten("law 0;");
        check.same("no change is needed", hands.changes(10, LAST, 5, 1), 0);
        check.same("the ROW itself, not the first", hands.changed(10, LAST, 5, 1), LAST);
    }

    /** Promise 25: "SERVES (most 1 .. 50 coins)". */
    private static void mostOfServes() {
        HalfHands hands = ten("");
        for (int n : new int[] {2, 3, 4, 10}) {
            check.bounds("most", 1, 50, -1, most -> hands.serves(n, TEN, most));
        }
    }

    /** Promise 25: "0, or the number that refutes it": the least one, up to most and no further. */
    private static void refutedAtTheEnd() {
        // at place 1 all odd ones stay, at place 2 c's alone, of 25 coins: 50 is the first number with them
        refutedBy(50, "law place=1 or coins=25 and age=12;");
        refutedBy(49, "law coins=49 and age=11;");
        refutedBy(1, "law coins=1 and place=1 and age=11;");
        refutedBy(2, "law place=1 or coins=1 and age=12;");
        // one that would be refuted by 51 only
        HalfHands hands = Check.told(Check.people(4) + "law coins=51 and age=11;");
        check.same("beyond 50", hands.serves(4, 0x3210, 50), 0);
    }

    private static void refutedBy(int number, String law) {
        HalfHands hands = Check.told(Check.people(4) + law);
        for (int most = 1; most <= 50; most++) {
            check.same(law + " up to " + most, hands.serves(4, 0x3210, most), most < number ? 0 : number);
        }
        check.same(law + " fewer ARRIVE", hands.arrives(4, 0x3210, number) < hands.best(4, 0x3210, number, 0), true);
    }

    /** Promise 25: "SERVES ..: 0, or the number that refutes it". */
    private static void servesAlways() {
        HalfHands hands = ten("");
        check.same("rising", hands.serves(10, TEN, 50), 0);
        check.same("falling", hands.serves(10, LAST, 50), 1);
        check.same("the first alone", hands.serves(10, LAST, 1), 1);
        check.same("all alike", ten("law 1;").serves(10, LAST, 50), 0);
        check.same("all alike", ten("law 0;").serves(10, LAST, 50), 0);
    }
}
