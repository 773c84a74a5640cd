/** Promises 12 to 15, 20 and 24: arrives, keeps, back, span, bound, worth. */
public final class RowTest {
    private static final Check check = new Check();
    private static final String FIVE = "person a 50;person b 30;person c 40;person d 20;person e 10;";
    private static final String TEN = "person a 1;person b 2;person c 3;person d 4;person e 5;person f 6;person g 7;"
            + "person h 8;person i 9;person j 10;";

    public static void main(String[] args) {
        arriving();
        keeping();
        wrongRows();
        bitsAbove();
        handsAreLeftOut();
        backs();
        backBounds();
        bounds();
        worths();
        check.end();
    }

    private static void arriving() {
        HalfHands hands = Check.told(FIVE);
        long row = Check.row(0, 1, 2, 3);
        check.same("b is younger than c, c older than d", hands.arrives(4, row, 41), 10);
        check.same("other way", hands.arrives(4, Check.row(0, 2, 1, 3), 43), 10);
        check.same("0", hands.arrives(4, row, 0), 0);
        check.same("1", hands.arrives(4, row, 1), 0);
        check.same("most coins", hands.arrives(4, row, 999999), 250000);
        check.same("no carrier", hands.arrives(2, Check.row(3, 1), 7), 7);
        check.same("one carrier", hands.arrives(3, Check.row(3, 1, 2), 7), 4);
        check.same("one older carrier", hands.arrives(3, Check.row(3, 2, 1), 7), 3);
        check.same("the sender's age is all one", hands.arrives(3, Check.row(4, 2, 1), 7), 3);
        HalfHands placed = Check.told(FIVE + "law place=1;");
        check.same("by place", placed.arrives(4, row, 7), 2);
        check.same("by hour 0", Check.told(FIVE + "law hour=0;").arrives(3, Check.row(3, 1, 2), 7), 3);
        check.same("by hour", Check.told(FIVE + "law hour;").arrives(3, Check.row(3, 2, 1), 7), 4);
        check.same("by coins", Check.told(FIVE + "law coins=3;").arrives(4, row, 6), 1);
        check.same("by other coins", Check.told(FIVE + "law coins=7;").arrives(4, row, 6), 2);
        check.same("an error", Check.told(FIVE + "law 1/(coins-3);").arrives(4, row, 6), 2);
        HalfHands ten = Check.told(TEN);
        check.same("ten people", ten.arrives(10, 0x9876543210L, 999999), 3907);
        check.same("backwards", ten.arrives(10, Check.row(9, 8, 7, 6, 5, 4, 3, 2, 1, 0), 999999), 3906);
    }

    private static void keeping() {
        HalfHands hands = Check.told(FIVE);
        long row = Check.row(0, 1, 2, 3);
        check.same("b", hands.keeps(4, row, 41, 1), 20);
        check.same("c", hands.keeps(4, row, 41, 2), 11);
        check.same("c towards the elder a", hands.keeps(3, Check.row(4, 2, 0), 7, 1), 3);
        check.same("c towards the younger e", hands.keeps(3, Check.row(0, 2, 4), 7, 1), 4);
        check.same("the sender", hands.keeps(4, row, 41, 0), -1);
        check.same("who gets", hands.keeps(4, row, 41, 3), -1);
        check.same("-1", hands.keeps(4, row, 41, -1), -1);
        check.same("no carrier", hands.keeps(2, Check.row(0, 1), 41, 1), -1);
        check.same("coins -1", hands.keeps(4, row, -1, 1), -1);
        check.same("coins 1000000", hands.keeps(4, row, 1000000, 1), -1);
        check.same("no row", hands.keeps(4, Check.row(0, 1, 1, 3), 1, 1), -1);
        check.same("0 coins", hands.keeps(4, row, 0, 2), 0);
    }

    private static void wrongRow(String what, HalfHands hands, int n, long row) {
        check.same(what + " arrives", hands.arrives(n, row, 1), -1);
        check.same(what + " keeps", hands.keeps(n, row, 1, 1), -1);
        check.same(what + " back", hands.back(n, row, 1, 0), -1);
        check.same(what + " span", hands.span(n, row, 1, 0, 0), -1);
        check.same(what + " best", hands.best(n, row, 1, 0), -1);
        check.same(what + " order", hands.order(n, row, 1, 0), -1);
        check.same(what + " just", hands.just(n, row, 1, 1), -1);
        check.same(what + " first", hands.first(n, row, 1, 1), -1);
        check.same(what + " gains", hands.gains(n, row, 1, 1, 0), -1);
        check.same(what + " changes", hands.changes(n, row, 1, 1), -1);
        check.same(what + " changed", hands.changed(n, row, 1, 1), -1);
        check.same(what + " worth", hands.worth(n, row, 1, 1), Integer.MIN_VALUE);
        check.same(what + " serves", hands.serves(n, row, 1), -1);
        check.same(what + " note", hands.note(n, row, 1, 0, 1), -1);
        check.same(what + " apart", hands.apart(n, row, 0, 0), -1);
    }

    private static void wrongRows() {
        HalfHands hands = Check.told(FIVE);
        wrongRow("one person", hands, 1, 0);
        wrongRow("nobody", hands, 0, 0);
        wrongRow("fewer than nobody", hands, -1, 0x3210);
        wrongRow("eleven", hands, 11, 0x43210L);
        wrongRow("very many", hands, Integer.MAX_VALUE, 0x3210);
        wrongRow("one twice", hands, 4, Check.row(0, 1, 2, 1));
        wrongRow("the same one sends and gets", hands, 4, Check.row(0, 1, 2, 0));
        wrongRow("a person that there isn't", hands, 4, Check.row(0, 1, 5, 2));
        wrongRow("person 15", hands, 4, Check.row(0, 1, 2, 15));
        wrongRow("more people than there are", hands, 6, Check.row(0, 1, 2, 3, 4, 0));
        wrongRow("below 0", hands, 4, -1);
        wrongRow("one twice, with bits above", hands, 4, Check.row(0, 1, 2, 1) | 1L << 16);
        wrongRow("a person that there isn't, with bits above", hands, 4, Check.row(0, 1, 5, 2) | Long.MIN_VALUE);
    }

    /** Bits above those of the n people neither refuse a call nor come back in an answer. */
    private static void bitsAbove() {
        String mays = "may stays 1;may goes 0;";
        long[] above = {1, 3, 4, 15, 0x43210, 1L << 47, -1};
        for (long bits : above) {
            sameRow(FIVE + mays, 4, Check.row(0, 2, 1, 3), bits);
            sameRow(FIVE + mays, 5, Check.row(4, 3, 2, 1, 0), bits);
            sameRow(TEN + mays, 10, Check.row(0, 8, 7, 6, 5, 4, 3, 2, 1, 9), bits);
        }
        check.same("no carrier", Check.told(FIVE).arrives(2, 0x43210L, 7), 7);
        check.same("the highest bit", Check.told(FIVE).arrives(2, Long.MIN_VALUE | 0x10L, 7), 7);
    }

    private static void sameRow(String text, int n, long row, long bits) {
        HalfHands hands = Check.told(text);
        long more = row | bits << 4 * n;
        String what = Long.toHexString(more) + " of " + n;
        int carrier = (int) (row >> 4 & 15);
        int t = hands.best(n, row, 43, 0);
        check.same(what + " arrives", hands.arrives(n, more, 43), hands.arrives(n, row, 43));
        check.same(what + " keeps", hands.keeps(n, more, 43, 1), hands.keeps(n, row, 43, 1));
        for (int i = 0; i < 4; i++) {
            check.same(what + " back " + i, hands.back(n, more, t, i), hands.back(n, row, t, i));
            check.same(what + " gains " + i, hands.gains(n, more, 43, carrier, i), hands.gains(n, row, 43, carrier, i));
        }
        for (int i = 0; i < 2; i++) {
            check.same(what + " span " + i, hands.span(n, more, t, 0, i), hands.span(n, row, t, 0, i));
            check.same(what + " best " + i, hands.best(n, more, 43, i), hands.best(n, row, 43, i));
            check.same(what + " order " + i, hands.order(n, more, 43, i), hands.order(n, row, 43, i));
        }
        check.same(what + " just", hands.just(n, more, 43, t), hands.just(n, row, 43, t));
        check.same(what + " first", hands.first(n, more, 43, t), hands.first(n, row, 43, t));
        check.same(what + " changes", hands.changes(n, more, 43, t), hands.changes(n, row, 43, t));
        check.same(what + " changed", hands.changed(n, more, 43, t), hands.changed(n, row, 43, t));
        check.same(what + " worth", hands.worth(n, more, 43, 1), hands.worth(n, row, 43, 1));
        check.same(what + " serves", hands.serves(n, more, 50), hands.serves(n, row, 50));
        check.same(what + " apart", hands.apart(n, more, 0, 1), hands.apart(n, row, 0, 1));
        check.same(what + " gets a note", hands.note(n, more, 1, 1, 1), 0);
        check.same(what + " fits where the odd one goes", hands.fits() & 3, 2);
    }

    private static void handsAreLeftOut() {
        HalfHands hands = Check.told(FIVE + "hands b to e;hands c to a;");
        check.same("arrives", hands.arrives(4, Check.row(0, 1, 2, 3), 41), 10);
        hands.hours(7);
        check.same("at another hour", hands.arrives(4, Check.row(0, 1, 2, 3), 41), 10);
        check.same("no purse has it", hands.coins(), 0);
    }

    private static void backs() {
        HalfHands hands = Check.told(FIVE + "law coins%4=1;");
        long row = Check.row(0, 1, 2);
        int[][] ends = {{0, 1}, {2, 2}, {3, 5}, {6, 6}, {7, 9}};
        for (int t = 0; t < ends.length; t++) {
            check.same("how many of " + t, hands.back(3, row, t, 0), ends[t][1] - ends[t][0] + 1);
            check.same("least of " + t, hands.back(3, row, t, 1), ends[t][0]);
            check.same("greatest of " + t, hands.back(3, row, t, 2), ends[t][1]);
            check.same("spans of " + t, hands.back(3, row, t, 3), 1);
            check.same("span 0 of " + t, hands.span(3, row, t, 0, 0), ends[t][0]);
            check.same("its end", hands.span(3, row, t, 0, 1), ends[t][1]);
            check.same("span 1", hands.span(3, row, t, 1, 0), -1);
            check.same("span -1", hands.span(3, row, t, -1, 0), -1);
            check.same("what 2", hands.span(3, row, t, 0, 2), -1);
            check.same("what -1", hands.span(3, row, t, 0, -1), -1);
        }
        check.same("what 4", hands.back(3, row, 1, 4), -1);
        check.same("what -1", hands.back(3, row, 1, -1), -1);
        check.same("t -1", hands.back(3, row, -1, 0), -1);
        check.same("t 100000", hands.back(3, row, 100000, 0), -1);
        check.same("t -1 of span", hands.span(3, row, -1, 0, 0), -1);
        check.same("t 100000 of span", hands.span(3, row, 100000, 0, 0), -1);
        check.same("no carrier", hands.back(2, Check.row(0, 1), 99999, 1), 99999);
        check.same("no carrier, one number", hands.back(2, Check.row(0, 1), 99999, 0), 1);
    }

    private static void backBounds() {
        HalfHands goes = Check.told(TEN + "law 0;");
        HalfHands stays = Check.told(TEN + "law 1;");
        long row = 0x9876543210L;
        check.same("least, all odd ones go on", goes.back(10, row, 5, 1), 4 * 256 + 1);
        check.same("greatest", goes.back(10, row, 5, 2), 5 * 256);
        check.same("least, all odd ones stay", stays.back(10, row, 5, 1), 5 * 256);
        check.same("greatest", stays.back(10, row, 5, 2), 6 * 256 - 1);
        check.same("how many", stays.back(10, row, 5, 0), 256);
        check.same("nothing arrives", stays.back(10, row, 0, 2), 255);
        check.same("cut at 999999", goes.back(10, row, 3907, 2), 999999);
        check.same("its least", goes.back(10, row, 3907, 1), 3906 * 256 + 1);
        check.same("how many are left", goes.back(10, row, 3907, 0), 999999 - 3906 * 256);
        check.same("none: how many", goes.back(10, row, 3908, 0), 0);
        check.same("none: least", goes.back(10, row, 3908, 1), -1);
        check.same("none: greatest", goes.back(10, row, 3908, 2), -1);
        check.same("none: spans", goes.back(10, row, 3908, 3), 0);
        check.same("none: span", goes.span(10, row, 3908, 0, 0), -1);
        check.same("none of 99999", goes.back(10, row, 99999, 0), 0);
        HalfHands one = Check.told(TEN + "law coins<>9999*100+99;");
        check.same("999999 alone", one.back(6, 0x543210L, 62500, 0), 1);
        check.same("is the least", one.back(6, 0x543210L, 62500, 1), 999999);
        check.same("stays: none of 3907", stays.back(10, row, 3907, 3), 0);
        check.same("stays: 3906", stays.back(10, row, 3906, 0), 999999 - 3906 * 256 + 1);
    }

    private static void bounds() {
        HalfHands hands = new HalfHands();
        check.same("none", hands.bound(0, 7, 0), 7);
        check.same("none, least", hands.bound(0, 7, 1), 7);
        check.same("two of 43", hands.bound(2, 43, 0), 11);
        check.same("two of 43, least", hands.bound(2, 43, 1), 10);
        check.same("even", hands.bound(3, 80, 0), 10);
        check.same("even, least", hands.bound(3, 80, 1), 10);
        check.same("one coin", hands.bound(8, 1, 0), 1);
        check.same("one coin, least", hands.bound(8, 1, 1), 0);
        check.same("0", hands.bound(8, 0, 0), 0);
        check.same("most", hands.bound(8, 999999, 0), 3907);
        check.same("n -1", hands.bound(-1, 1, 0), -1);
        check.same("n 9", hands.bound(9, 1, 0), -1);
        check.same("coins -1", hands.bound(1, -1, 0), -1);
        check.same("coins 1000000", hands.bound(1, 1000000, 0), -1);
        check.same("what 2", hands.bound(1, 1, 2), -1);
        check.same("what -1", hands.bound(1, 1, -1), -1);
    }

    private static void worths() {
        HalfHands hands = Check.told(FIVE);
        long row = Check.row(0, 1, 2, 3);
        check.same("b and c", hands.worth(4, row, 43, 1), -1);
        check.same("c and b", hands.worth(4, Check.row(0, 2, 1, 3), 43, 1), 1);
        check.same("nothing", hands.worth(4, row, 40, 1), 0);
        check.same("k 0", hands.worth(4, row, 43, 0), Integer.MIN_VALUE);
        check.same("k 2", hands.worth(4, row, 43, 2), Integer.MIN_VALUE);
        check.same("k -1", hands.worth(4, row, 43, -1), Integer.MIN_VALUE);
        check.same("one carrier", hands.worth(3, Check.row(0, 1, 2), 43, 1), Integer.MIN_VALUE);
        check.same("no carrier", hands.worth(2, Check.row(0, 1), 43, 1), Integer.MIN_VALUE);
        check.same("coins -1", hands.worth(4, row, -1, 1), Integer.MIN_VALUE);
        check.same("coins 1000000", hands.worth(4, row, 1000000, 1), Integer.MIN_VALUE);
        check.same("the last two of three", hands.worth(5, Check.row(0, 3, 2, 1, 4), 43, 2) > -2, true);
    }
}
