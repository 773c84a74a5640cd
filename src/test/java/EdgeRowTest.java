/**
 * The edges of a ROW (part 3 of the Terms) and of promises 12 to 15, 20 and 24; above each method is the sentence of
 * the document that it is for.
 */
public final class EdgeRowTest {
    private static final Check check = new Check();
    private static final int NO_WORTH = Integer.MIN_VALUE;
    /** Of ten PEOPLE, 0 to 9. */
    private static final long TEN = 0x9876543210L;

    public static void main(String[] args) {
        twoToTen();
        eachOnce();
        suchPeople();
        fourBitsEach();
        firstSendsLastGets();
        coinsOfARow();
        arrivesOfFew();
        carrierKeeps();
        keepsAllTogether();
        whatOfBack();
        numberOfBack();
        backOfNought();
        spans();
        endsOfSpans();
        noneOfBack();
        noneAbove();
        carriersOfBound();
        coinsOfBound();
        boundIsMet();
        whatOfBound();
        placesOfWorth();
        worthIsBelowNoughtToo();
        check.end();
    }

    private static HalfHands ten(String more) {
        return Check.told(Check.people(10) + more);
    }

    /** "A ROW: 2 .. 10 PEOPLE". */
    private static void twoToTen() {
        HalfHands hands = ten("");
        check.bounds("people", 2, 10, -1, n -> hands.arrives(n, TEN, 1));
        check.bounds("people", 2, 10, -1, n -> hands.back(n, TEN, 1, 0));
        check.bounds("people", 2, 10, -1, n -> hands.best(n, TEN, 1, 0));
        check.bounds("people", 2, 10, -1, n -> hands.order(n, TEN, 1, 0));
        check.bounds("people", 2, 10, -1, n -> hands.just(n, TEN, 1, 1));
        check.bounds("people", 2, 10, -1, n -> hands.first(n, TEN, 1, 1));
        check.bounds("people", 2, 10, -1, n -> hands.changes(n, TEN, 1, 1));
        check.bounds("people", 2, 10, -1, n -> hands.changed(n, TEN, 1, 1));
        check.bounds("people", 2, 10, -1, n -> hands.serves(n, TEN, 1));
        check.bounds("people", 2, 10, -1, n -> hands.span(n, TEN, 1, 0, 0));
        check.bounds("people", 2, 10, -1, n -> hands.note(n, TEN, 1, 0, 1));
        check.bounds("people", 2, 10, -1, n -> hands.apart(n, TEN, 0, 0));
        // with a CARRIER, and with two of them
        check.bounds("people", 3, 10, -1, n -> hands.keeps(n, TEN, 1, 1));
        check.bounds("people", 3, 10, -1, n -> hands.gains(n, TEN, 1, 1, 0));
        check.bounds("people", 4, 10, NO_WORTH, n -> hands.worth(n, TEN, 1, 1));
    }

    /** "each once". */
    private static void eachOnce() {
        HalfHands hands = ten("");
        for (int one = 0; one < 10; one++) {
            for (int other = 0; other < 10; other++) {
                long row = TEN & ~(15L << 4 * one) | (long) other << 4 * one;
                check.same(one + " and " + other, hands.arrives(10, row, 999999) < 0, one != other);
            }
        }
        for (int person = 0; person < 10; person++) {
            check.same("twice " + person, hands.arrives(2, Check.row(person, person), 5), -1);
        }
        check.same("first and last", hands.arrives(3, Check.row(1, 2, 1), 5), -1);
    }

    /** "PEOPLE" of the TEXT alone. */
    private static void suchPeople() {
        for (int people = 1; people <= 10; people++) {
            HalfHands hands = Check.told(Check.people(people));
            for (int person = 1; person <= 15; person++) {
                check.same(person + " of " + people, hands.arrives(2, Check.row(0, person), 5),
                        person < people ? 5 : -1);
                check.same(person + " of " + people, hands.arrives(2, Check.row(person, 0), 5),
                        person < people ? 5 : -1);
            }
        }
        HalfHands hands = ten("");
        Check.tell(hands, Check.people(2));
        check.same("of a text ahead", hands.arrives(3, 0x210, 5), -1);
        check.same("of this one", hands.arrives(2, 0x10, 5), 5);
        check.same("of no text", new HalfHands().arrives(2, 0x10, 5), -1);
    }

    /** "(as long, four bits each, the first lowest)": bits above those of the n PEOPLE are nobody's. */
    private static void fourBitsEach() {
        HalfHands hands = Check.told("person a 1;person b 9;person c 5;person d 7;");
        check.same("a, b, c", hands.arrives(3, 0x210, 7), 3);
        check.same("a, c, b", hands.arrives(3, 0x120, 7), 4);
        for (int n = 2; n <= 4; n++) {
            for (int bit = 4 * n; bit < 64; bit++) {
                check.same("bit " + bit + " of " + n, hands.arrives(n, 0x3210L | 1L << bit, 7),
                        hands.arrives(n, 0x3210L, 7));
            }
        }
        HalfHands all = ten("");
        for (int bit = 40; bit < 64; bit++) {
            check.same("bit " + bit + " of 10", all.arrives(10, TEN | 1L << bit, 999), all.arrives(10, TEN, 999));
        }
    }

    /** "the first sends, the last gets; those between are CARRIERS". */
    private static void firstSendsLastGets() {
        HalfHands hands = ten("law 1;");
        for (int n = 2; n <= 10; n++) {
            check.same("the sender keeps nothing, who gets all, of " + n, hands.arrives(n, TEN, 1 << n - 2), 1);
            check.same("one less", hands.arrives(n, TEN, (1 << n - 2) - 1), 0);
        }
    }

    /** "A ROW may be sent 0 .. 999999 coins." */
    private static void coinsOfARow() {
        HalfHands hands = Check.told(Check.people(4));
        long row = 0x3210;
        check.bounds("arrives", 0, 999999, -1, coins -> hands.arrives(4, row, coins));
        check.bounds("arrives, no CARRIER", 0, 999999, -1, coins -> hands.arrives(2, row, coins));
        check.bounds("keeps", 0, 999999, -1, coins -> hands.keeps(4, row, coins, 1));
        check.bounds("best", 0, 999999, -1, coins -> hands.best(4, row, coins, 0));
        check.bounds("order", 0, 999999, -1, coins -> hands.order(4, row, coins, 1));
        check.bounds("just", 0, 999999, -1, coins -> hands.just(4, row, coins, 1));
        check.bounds("first", 0, 999999, -1, coins -> hands.first(4, row, coins, 1));
        check.bounds("gains", 0, 999999, -1, coins -> hands.gains(4, row, coins, 1, 0));
        check.bounds("changes", 0, 999999, -1, coins -> hands.changes(4, row, coins, 1));
        check.bounds("changed", 0, 999999, -1, coins -> hands.changed(4, row, coins, 1));
        check.bounds("worth", 0, 999999, NO_WORTH, coins -> hands.worth(4, row, coins, 1));
        check.bounds("note", 0, 999999, -1, coins -> hands.note(4, row, coins, 0, 1));
    }

    /** Promise 12, at its ends. */
    private static void arrivesOfFew() {
        HalfHands goes = ten("law 0;");
        HalfHands stays = ten("law 1;");
        for (int n = 2; n <= 10; n++) {
            int unit = 1 << n - 2;
            check.same("0 coins", goes.arrives(n, TEN, 0), 0);
            check.same("1 coin goes", goes.arrives(n, TEN, 1), 1);
            check.same("1 coin stays", stays.arrives(n, TEN, 1), n == 2 ? 1 : 0);
            check.same("unit", goes.arrives(n, TEN, unit), 1);
            check.same("unit and 1", goes.arrives(n, TEN, unit + 1), 2);
            check.same("all coins go", goes.arrives(n, TEN, 999999), (999999 + unit - 1) / unit);
            check.same("all coins stay", stays.arrives(n, TEN, 999999), 999999 / unit);
        }
    }

    /** Promise 13: "What CARRIER k (1 up) of a ROW keeps; NONE: no such ones." */
    private static void carrierKeeps() {
        HalfHands hands = ten("");
        for (int n = 3; n <= 10; n++) {
            int length = n;
            check.bounds("CARRIER of " + n, 1, n - 2, -1, k -> hands.keeps(length, TEN, 5, k));
        }
        for (int k = -1; k <= 2; k++) {
            check.same("of two PEOPLE, " + k, hands.keeps(2, TEN, 5, k), -1);
        }
        check.same("of 0 coins", hands.keeps(3, TEN, 0, 1), 0);
        check.same("of 1 coin", hands.keeps(3, TEN, 1, 1), 0);
        check.same("of 1 coin, older", hands.keeps(3, 0x120, 1, 1), 1);
        check.same("of the most", hands.keeps(3, 0x120, 999999, 1), 500000);
        HalfHands never = Check.told(Check.people(3) + "law hour;");
        HalfHands always = Check.told(Check.people(3) + "law hour=0;");
        check.same("the hour is 0", never.keeps(3, 0x210, 7, 1), 3);
        check.same("the hour is 0", always.keeps(3, 0x210, 7, 1), 4);
    }

    /** "who keeps what": with what ARRIVES it is all. */
    private static void keepsAllTogether() {
        HalfHands hands = ten("law coins%3;");
        for (int coins : new int[] {0, 1, 255, 256, 257, 999998, 999999}) {
            int sum = hands.arrives(10, TEN, coins);
            for (int k = 1; k <= 8; k++) {
                sum += hands.keeps(10, TEN, coins, k);
            }
            check.same("all of " + coins, sum, coins);
        }
    }

    /** Promise 14: "what 0: how many numbers, 1: the least, 2: the greatest (NONE: none), 3: how many SPANS." */
    private static void whatOfBack() {
        HalfHands hands = ten("");
        check.bounds("what of back", 0, 3, -1, what -> hands.back(4, TEN, 7, what));
        check.bounds("what of back, no CARRIER", 0, 3, -1, what -> hands.back(2, TEN, 7, what));
    }

    /** Promise 14: "BACK (t 0 .. 99999)". */
    private static void numberOfBack() {
        HalfHands hands = ten("");
        for (int n : new int[] {2, 3, 5, 6, 10}) {
            check.bounds("t of back, how many", 0, 99999, -1, t -> hands.back(n, TEN, t, 0));
            check.bounds("t of back, spans", 0, 99999, -1, t -> hands.back(n, TEN, t, 3));
        }
        check.bounds("t of span", 0, 99999, -1, t -> hands.span(2, TEN, t, 0, 0));
        check.bounds("t of span", 0, 99999, -1, t -> hands.span(5, TEN, t, 0, 1));
        check.same("t 99999 of no CARRIER", hands.back(2, TEN, 99999, 1), 99999);
        check.same("t 99999 of one", hands.back(3, TEN, 99999, 2), 199998);
        check.same("t 99999 of three", hands.back(5, TEN, 99999, 2), 799992);
        check.same("t 99999 of four", hands.back(6, TEN, 99999, 0), 0);
    }

    /** "all numbers of coins (0 and more ..) that ARRIVE as t": 0 is one of them, none below. */
    private static void backOfNought() {
        HalfHands goes = ten("law 0;");
        HalfHands stays = ten("law 1;");
        for (int n = 2; n <= 10; n++) {
            check.same("goes, least", goes.back(n, TEN, 0, 1), 0);
            check.same("goes, greatest", goes.back(n, TEN, 0, 2), 0);
            check.same("goes, how many", goes.back(n, TEN, 0, 0), 1);
            check.same("stays, least", stays.back(n, TEN, 0, 1), 0);
            check.same("stays, greatest", stays.back(n, TEN, 0, 2), (1 << n - 2) - 1);
            check.same("goes, least of 1", goes.back(n, TEN, 1, 1), 1);
            check.same("goes, greatest of 1", goes.back(n, TEN, 1, 2), 1 << n - 2);
            check.same("stays, least of 1", stays.back(n, TEN, 1, 1), 1 << n - 2);
            check.same("stays, greatest of 1", stays.back(n, TEN, 1, 2), (2 << n - 2) - 1);
        }
    }

    /** Promise 15: "SPAN k of BACK, what 0: its first number, 1: its last. NONE: no such ones." */
    private static void spans() {
        HalfHands hands = ten("law coins%4=1;");
        for (int n = 2; n <= 10; n++) {
            int length = n;
            check.bounds("SPAN of " + n, 0, 0, -1, k -> hands.span(length, TEN, 9, k, 0));
            check.bounds("what of SPAN of " + n, 0, 1, -1, what -> hands.span(length, TEN, 9, 0, what));
            check.same("its first", hands.span(n, TEN, 9, 0, 0), hands.back(n, TEN, 9, 1));
            check.same("its last", hands.span(n, TEN, 9, 0, 1), hands.back(n, TEN, 9, 2));
        }
    }

    /** "in SPANS of numbers one behind another": all in it ARRIVE as t, those right beside it don't. */
    private static void endsOfSpans() {
        HalfHands hands = ten("law coins%4=1 and place<>3 or place=5;");
        for (int n = 2; n <= 10; n++) {
            for (int t : new int[] {0, 1, 2, 7, 8}) {
                int first = hands.span(n, TEN, t, 0, 0);
                int last = hands.span(n, TEN, t, 0, 1);
                check.same("first", hands.arrives(n, TEN, first), t);
                check.same("last", hands.arrives(n, TEN, last), t);
                check.same("one behind", hands.arrives(n, TEN, last + 1), t + 1);
                check.same("one ahead", first == 0 ? t - 1 : hands.arrives(n, TEN, first - 1), t - 1);
                check.same("how many", hands.back(n, TEN, t, 0), last - first + 1);
            }
        }
    }

    /** Promise 14: "(NONE: none)"; of none there is no SPAN. */
    private static void noneOfBack() {
        HalfHands hands = ten("law 1;");
        // 3906 * 256 is 999936, 3907 * 256 beyond 999999
        long[] due = {64, 999936, 999999, 1};
        long[] none = {0, -1, -1, 0};
        for (int what = 0; what <= 3; what++) {
            check.same("3906, what " + what, hands.back(10, TEN, 3906, what), due[what]);
            check.same("3907, what " + what, hands.back(10, TEN, 3907, what), none[what]);
            check.same("99999, what " + what, hands.back(10, TEN, 99999, what), none[what]);
        }
        check.same("SPAN 0 of none", hands.span(10, TEN, 3907, 0, 0), -1);
        check.same("its last", hands.span(10, TEN, 3907, 0, 1), -1);
        check.same("SPAN 0 of 3906", hands.span(10, TEN, 3906, 0, 1), 999999);
    }

    /** "none .. left out but those above" 999999: a SPAN ends there, one step ahead, and begins there. */
    private static void noneAbove() {
        String million = "9999*100+99";
        // of 4 CARRIERS 999999 ARRIVES as 62500, if all odd ones go on, else as 62499
        HalfHands goes = ten("law 0;");
        check.same("cut at 999999", goes.back(6, TEN, 62500, 2), 999999);
        check.same("its first", goes.back(6, TEN, 62500, 1), 62499 * 16 + 1);
        check.same("how many", goes.back(6, TEN, 62500, 0), 15);
        check.same("none of 62501", goes.back(6, TEN, 62501, 0), 0);
        HalfHands alone = ten("law coins<>" + million + ";");
        check.same("999999 alone", alone.back(6, TEN, 62500, 0), 1);
        check.same("is the first", alone.span(6, TEN, 62500, 0, 0), 999999);
        check.same("is the last", alone.span(6, TEN, 62500, 0, 1), 999999);
        check.same("one ahead of it", alone.back(6, TEN, 62499, 2), 999998);
        HalfHands stays = ten("law 1;");
        check.same("none of 62500", stays.back(6, TEN, 62500, 0), 0);
        check.same("62499 goes up to 999999", stays.back(6, TEN, 62499, 2), 999999);
        check.same("from", stays.back(6, TEN, 62499, 1), 62499 * 16);
    }

    /** Promise 20: "BOUND (n 0 .. 8 CARRIERS)". */
    private static void carriersOfBound() {
        HalfHands hands = new HalfHands();
        check.bounds("CARRIERS", 0, 8, -1, n -> hands.bound(n, 999999, 0));
        check.bounds("CARRIERS", 0, 8, -1, n -> hands.bound(n, 0, 1));
        check.same("of none, at most", hands.bound(0, 5, 0), 5);
        check.same("of none, at least", hands.bound(0, 5, 1), 5);
    }

    /** Promise 20, coins as of a ROW. */
    private static void coinsOfBound() {
        HalfHands hands = new HalfHands();
        for (int n : new int[] {0, 1, 8}) {
            check.bounds("coins", 0, 999999, -1, coins -> hands.bound(n, coins, 0));
            check.bounds("coins", 0, 999999, -1, coins -> hands.bound(n, coins, 1));
        }
        int[] coins = {0, 1, 255, 256, 257, 511, 512, 513, 999936, 999937, 999999};
        int[] most = {0, 1, 1, 1, 2, 2, 2, 3, 3906, 3907, 3907};
        int[] least = {0, 0, 0, 1, 1, 1, 2, 2, 3906, 3906, 3906};
        for (int i = 0; i < coins.length; i++) {
            check.same("at most of " + coins[i], hands.bound(8, coins[i], 0), most[i]);
            check.same("at least of " + coins[i], hands.bound(8, coins[i], 1), least[i]);
        }
    }

    /** "what can ARRIVE at most, at least, .. whatever they do with odd ones". */
    private static void boundIsMet() {
        HalfHands goes = ten("law 0;");
        HalfHands stays = ten("law 1;");
        for (int n = 2; n <= 10; n++) {
            for (int coins : new int[] {0, 1, 2, 3, 127, 128, 129, 999999}) {
                check.same("at most", goes.bound(n - 2, coins, 0), goes.arrives(n, TEN, coins));
                check.same("at least", stays.bound(n - 2, coins, 1), stays.arrives(n, TEN, coins));
            }
        }
    }

    /** Promise 20: "what 0: at most, 1: at least. NONE: no such ones." */
    private static void whatOfBound() {
        HalfHands hands = new HalfHands();
        check.bounds("what of bound", 0, 1, -1, what -> hands.bound(3, 9, what));
    }

    /** Promise 24: "WORTH of a change at place k ..; Integer.MIN_VALUE: no such ones." */
    private static void placesOfWorth() {
        HalfHands hands = ten("");
        for (int n = 4; n <= 10; n++) {
            int length = n;
            check.bounds("place of " + n, 1, n - 3, NO_WORTH, k -> hands.worth(length, TEN, 5, k));
        }
        for (int k = -1; k <= 3; k++) {
            check.same("of one CARRIER, " + k, hands.worth(3, TEN, 5, k), NO_WORTH);
            check.same("of none, " + k, hands.worth(2, TEN, 5, k), NO_WORTH);
        }
    }

    /** Promise 24: "(below 0, too)". */
    private static void worthIsBelowNoughtToo() {
        HalfHands hands = Check.told("person a 50;person b 30;person c 40;person d 20;");
        check.same("one less", hands.worth(4, 0x3210, 43, 1), -1);
        check.same("one more", hands.worth(4, 0x3120, 43, 1), 1);
        check.same("as many", hands.worth(4, 0x3210, 40, 1), 0);
        check.same("of 0 coins", hands.worth(4, 0x3210, 0, 1), 0);
        HalfHands last = Check.told(Check.people(5) + "law place=3 and age=13;");
        // 8 by three CARRIERS: 4, 2, 1; only d at place 3 keeps an odd one: of 4 he does
        check.same("d to place 2", last.worth(5, 0x43210, 4, 2), 1);
        check.same("d to place 3", last.worth(5, 0x42310, 4, 2), -1);
        check.same("d stays", last.worth(5, 0x43210, 4, 1), 0);
    }
}
