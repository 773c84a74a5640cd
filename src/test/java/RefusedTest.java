/**
 * Refused calls of all promises: what they answer, and that all stays as it was; then calls that only ask, by which
 * all stays, too. What is asked of both twins is in Twins.
 */
public final class RefusedTest {
    private static final Check check = new Check();
    private static final long ROW = 0x210;
    private static final int LEAST = Integer.MIN_VALUE;
    private static final int MOST = Integer.MAX_VALUE;
    /** Numbers that are too small or too great wherever a number is looked at. */
    private static final int[] WRONG = {LEAST, LEAST + 1, -2, 1000000, MOST - 1, MOST};

    public static void main(String[] args) {
        refusedTape();
        refusedPeople();
        refusedHours();
        refusedSends();
        refusedRows();
        refusedCoins();
        refusedPlaces();
        refusedNumbers();
        refusedWhats();
        refusedNotes();
        refusedTrials();
        refusedImage();
        asking();
        check.end();
    }

    /** Something of everything: parcels of all states, turns, notes, a strike, an image, a fault, a tape. */
    private static HalfHands used() {
        HalfHands hands = Check.told("person a 9 purse 1;person b 60;person c 40;hands a to b;hands b to c or a;"
                + "parcel a 11 0;parcel c 7 1;parcel a 5 90;law elder or coins=5;may m 1;may n coins%3;");
        hands.hours(1);
        hands.send(0, 13);
        hands.hours(1);
        hands.note(3, ROW, 5, 2, 2);
        hands.note(3, ROW, 7, 4, 4);
        hands.strike(1);
        hands.note(3, ROW, 3, 0, 3);
        hands.known(3);
        hands.keep();
        hands.hours(1);
        hands.send(1, 2);
        Check.tell(hands, "person q 1;person r 100;");
        Check.feedAll(hands, "person z 3 purse 4;");
        return hands;
    }

    private static void refused(String what, long due, Twins.Call call) {
        Twins.unchanged(check, what, RefusedTest::used, due, call);
    }

    /** For a call that a new object refuses, too. */
    private static void refusedByBoth(String what, long due, Twins.Call call) {
        refused(what, due, call);
        Twins.unchanged(check, what + " of a new object", HalfHands::new, due, call);
    }

    /** Promises 2, 3. */
    private static void refusedTape() {
        Twins.unchanged(check, "feed of 700", RefusedTest::fullTape, -1, hands -> hands.feed(-1, -1, -1, -1, -1));
        refusedByBoth("text(-1)", -2, hands -> hands.text(-1));
        refusedByBoth("text(21)", -2, hands -> hands.text(21));
        refusedByBoth("text(MIN)", -2, hands -> hands.text(LEAST));
        refusedByBoth("text(MAX)", -2, hands -> hands.text(MOST));
        Twins.unchanged(check, "text(701) of 700", RefusedTest::fullTape, -2, hands -> hands.text(701));
    }

    private static HalfHands fullTape() {
        HalfHands hands = used();
        Check.feedAll(hands, Check.times(679, " ") + "!");
        return hands;
    }

    /** Promises 5, 6. */
    private static void refusedPeople() {
        for (int person : new int[] {LEAST, -1, 3, 10, 16, MOST}) {
            for (int what : new int[] {-1, 0, 1, 6, 7}) {
                refusedByBoth("look(" + person + ", " + what + ")", Check.OUT_OF_BOUNDS,
                        hands -> Check.look(hands, person, what));
            }
        }
        for (int what : new int[] {LEAST, -1, 7, 8, MOST}) {
            refused("look(2, " + what + ")", Check.NO_SUCH, hands -> Check.look(hands, 2, what));
            refusedByBoth("named(" + what + ")", -1, hands -> hands.named(what, Check.letters("a")));
        }
        refusedByBoth("named of none", -1, hands -> hands.named(0, Check.letters("z")));
    }

    /** Promise 7. */
    private static void refusedHours() {
        for (int n : new int[] {LEAST, -1, 301, 3000, MOST}) {
            refusedByBoth("hours(" + n + ")", -1, hands -> hands.hours(n));
        }
        Twins.unchanged(check, "hours(2) at 2999", RefusedTest::late, -1, hands -> hands.hours(2));
        Twins.unchanged(check, "hours(300) at 2999", RefusedTest::late, -1, hands -> hands.hours(300));
        Twins.unchanged(check, "hours(0) at 2999", RefusedTest::late, 2999, hands -> hands.hours(0));
    }

    private static HalfHands late() {
        HalfHands hands = used();
        for (int i = 0; i < 9; i++) {
            hands.hours(300);
        }
        hands.hours(296);
        hands.send(0, 9);
        return hands;
    }

    /** Promise 8. */
    private static void refusedSends() {
        for (int person : new int[] {LEAST, -1, 3, MOST}) {
            refusedByBoth("send from " + person, -1, hands -> hands.send(person, 1));
        }
        for (int coins : new int[] {LEAST, -1, 0, 100000, MOST}) {
            refusedByBoth("send of " + coins, -1, hands -> hands.send(0, coins));
        }
        Twins.unchanged(check, "a 31st", RefusedTest::thirtyParcels, -1, hands -> hands.send(0, 1));
    }

    private static HalfHands thirtyParcels() {
        HalfHands hands = used();
        for (int i = hands.count(1); i < 30; i++) {
            hands.send(i % 3, i);
        }
        return hands;
    }

    /** Promises 12 to 19, 21 to 25, 27, 31: what is no ROW. */
    private static void refusedRows() {
        noRow(1, 0);
        noRow(0, 0);
        noRow(-1, ROW);
        noRow(11, ROW);
        noRow(LEAST, ROW);
        noRow(MOST, ROW);
        noRow(3, 0x010);
        noRow(3, 0x110);
        noRow(3, 0x310);
        noRow(3, 0xf10);
        noRow(3, -1);
        noRow(4, 0x3210);
    }

    private static void noRow(int n, long row) {
        String of = " of " + n + ", " + Long.toHexString(row);
        refusedByBoth("arrives" + of, -1, hands -> hands.arrives(n, row, 1));
        refusedByBoth("keeps" + of, -1, hands -> hands.keeps(n, row, 1, 1));
        refusedByBoth("back" + of, -1, hands -> hands.back(n, row, 1, 0));
        refusedByBoth("span" + of, -1, hands -> hands.span(n, row, 1, 0, 0));
        refusedByBoth("best" + of, -1, hands -> hands.best(n, row, 1, 0));
        refusedByBoth("order" + of, -1, hands -> hands.order(n, row, 1, 0));
        refusedByBoth("just" + of, -1, hands -> hands.just(n, row, 1, 1));
        refusedByBoth("first" + of, -1, hands -> hands.first(n, row, 1, 1));
        refusedByBoth("gains" + of, -1, hands -> hands.gains(n, row, 1, 1, 0));
        refusedByBoth("changes" + of, -1, hands -> hands.changes(n, row, 1, 1));
        refusedByBoth("changed" + of, -1, hands -> hands.changed(n, row, 1, 1));
        refusedByBoth("worth" + of, LEAST, hands -> hands.worth(n, row, 1, 1));
        refusedByBoth("serves" + of, -1, hands -> hands.serves(n, row, 1));
        refusedByBoth("note" + of, -1, hands -> hands.note(n, row, 1, 0, 1));
        refusedByBoth("apart" + of, -1, hands -> hands.apart(n, row, 0, 0));
    }

    /** "A ROW may be sent 0 .. 999999 coins." */
    private static void refusedCoins() {
        for (int coins : new int[] {LEAST, -1, 1000000, MOST}) {
            String of = " of " + coins + " coins";
            refused("arrives" + of, -1, hands -> hands.arrives(3, ROW, coins));
            refused("keeps" + of, -1, hands -> hands.keeps(3, ROW, coins, 1));
            refused("best" + of, -1, hands -> hands.best(3, ROW, coins, 0));
            refused("order" + of, -1, hands -> hands.order(3, ROW, coins, 0));
            refused("just" + of, -1, hands -> hands.just(3, ROW, coins, 1));
            refused("first" + of, -1, hands -> hands.first(3, ROW, coins, 1));
            refusedByBoth("bound" + of, -1, hands -> hands.bound(1, coins, 0));
            refused("gains" + of, -1, hands -> hands.gains(3, ROW, coins, 1, 0));
            refused("changes" + of, -1, hands -> hands.changes(3, ROW, coins, 1));
            refused("changed" + of, -1, hands -> hands.changed(3, ROW, coins, 1));
            refused("worth" + of, LEAST, hands -> hands.worth(3, ROW, coins, 1));
            refused("note" + of, -1, hands -> hands.note(3, ROW, coins, 0, 1));
        }
    }

    /** Promises 13, 15, 21, 24: CARRIER, SPAN, PERSON, place. */
    private static void refusedPlaces() {
        for (int k : new int[] {LEAST, -1, 0, 2, 3, MOST}) {
            refused("keeps " + k, -1, hands -> hands.keeps(3, ROW, 5, k));
            refused("worth " + k, LEAST, hands -> hands.worth(3, ROW, 5, k));
            refused("gains of " + k, -1, hands -> hands.gains(3, ROW, 5, k, 0));
        }
        refused("worth 1 of one CARRIER", LEAST, hands -> hands.worth(3, ROW, 5, 1));
        for (int k : new int[] {LEAST, -1, 1, 2, MOST}) {
            refused("span " + k, -1, hands -> hands.span(3, ROW, 2, k, 0));
        }
    }

    /** Promises 14, 15, 18, 19, 20, 22, 23, 25, 26: t, n, most, NAMES. */
    private static void refusedNumbers() {
        for (int t : new int[] {LEAST, -1, 100000, MOST}) {
            refused("back of " + t, -1, hands -> hands.back(3, ROW, t, 0));
            refused("span of " + t, -1, hands -> hands.span(3, ROW, t, 0, 0));
        }
        for (int t : new int[] {LEAST, -1, 1000000, MOST}) {
            refused("just of " + t, -1, hands -> hands.just(3, ROW, 5, t));
            refused("first of " + t, -1, hands -> hands.first(3, ROW, 5, t));
            refused("changes of " + t, -1, hands -> hands.changes(3, ROW, 5, t));
            refused("changed of " + t, -1, hands -> hands.changed(3, ROW, 5, t));
        }
        for (int n : new int[] {LEAST, -1, 9, 32, MOST}) {
            refusedByBoth("bound of " + n, -1, hands -> hands.bound(n, 5, 0));
        }
        for (int most : new int[] {LEAST, -1, 0, 51, MOST}) {
            refused("serves " + most, -1, hands -> hands.serves(3, ROW, most));
        }
        for (int wrong : WRONG) {
            refusedByBoth("law, coins " + wrong, Long.MIN_VALUE, hands -> hands.law(wrong, 1, 1, 1, 1));
            refusedByBoth("law, age " + wrong, Long.MIN_VALUE, hands -> hands.law(1, wrong, 1, 1, 1));
            refusedByBoth("law, next " + wrong, Long.MIN_VALUE, hands -> hands.law(1, 1, wrong, 1, 1));
            refusedByBoth("law, place " + wrong, Long.MIN_VALUE, hands -> hands.law(1, 1, 1, wrong, 1));
            refusedByBoth("law, hour " + wrong, Long.MIN_VALUE, hands -> hands.law(1, 1, 1, 1, wrong));
        }
    }

    /** Promises 4, 9, 14 to 17, 20, 21, 35: no such what; 9: no such PARCEL. */
    private static void refusedWhats() {
        for (int what : new int[] {LEAST, -1, 10, MOST}) {
            refusedByBoth("fault " + what, -1, hands -> hands.fault(what));
            refusedByBoth("count " + what, -1, hands -> hands.count(what));
            refusedByBoth("parcel " + what, -1, hands -> hands.parcel(0, what));
            refused("back " + what, -1, hands -> hands.back(3, ROW, 2, what));
            refused("span " + what, -1, hands -> hands.span(3, ROW, 2, 0, what));
            refused("best " + what, -1, hands -> hands.best(3, ROW, 5, what));
            refused("order " + what, -1, hands -> hands.order(3, ROW, 5, what));
            refusedByBoth("bound " + what, -1, hands -> hands.bound(1, 5, what));
            refused("gains " + what, -1, hands -> hands.gains(3, ROW, 5, 1, what));
        }
        for (int parcel : new int[] {LEAST, -1, 5, 29, 30, 31, MOST}) {
            refusedByBoth("parcel " + parcel, -1, hands -> hands.parcel(parcel, 0));
        }
    }

    /** Promises 27, 28, 29, 31. */
    private static void refusedNotes() {
        for (int wrong : WRONG) {
            refusedByBoth("note, low " + wrong, -1, hands -> hands.note(3, ROW, 1, wrong, wrong));
            refusedByBoth("note, high " + wrong, -1, hands -> hands.note(3, ROW, 1, 0, wrong));
            refusedByBoth("strike " + wrong, -1, hands -> hands.strike(wrong));
            refusedByBoth("known " + wrong, 0, hands -> hands.known(wrong) ? 1 : 0);
            refused("apart, one " + wrong, -1, hands -> hands.apart(3, ROW, wrong, 0));
            refused("apart, other " + wrong, -1, hands -> hands.apart(3, ROW, 0, wrong));
        }
        refused("note, high below low", -1, hands -> hands.note(3, ROW, 1, 1, 0));
        refused("note, low -1", -1, hands -> hands.note(3, ROW, 1, -1, 0));
        refused("strike 4", -1, hands -> hands.strike(4));
        refused("strike -1", -1, hands -> hands.strike(-1));
        refusedByBoth("known 5", 0, hands -> hands.known(5) ? 1 : 0);
        Twins.unchanged(check, "a 41st note", RefusedTest::fortyNotes, -1, hands -> hands.note(3, ROW, 1, 0, 0));
        Twins.unchanged(check, "a 41st strike", RefusedTest::fortyNotes, -1, hands -> hands.strike(0));
        Twins.unchanged(check, "known 41", RefusedTest::fortyNotes, 0, hands -> hands.known(41) ? 1 : 0);
    }

    private static HalfHands fortyNotes() {
        HalfHands hands = used();
        for (int i = hands.count(5); i < 40; i++) {
            hands.note(3, ROW, i, i / 2, i / 2 + 1);
        }
        hands.known(-1);
        return hands;
    }

    /** Promise 32. */
    private static void refusedTrials() {
        for (int what = 0; what <= 5; what++) {
            int trial = what;
            for (int wrong : new int[] {LEAST, -1, 30, MOST}) {
                refusedByBoth("tried " + what + ", i " + wrong, -1, hands -> hands.tried(trial, wrong, 0));
                refusedByBoth("tried " + what + ", j " + wrong, -1, hands -> hands.tried(trial, 0, wrong));
            }
            refused("tried " + what + ", j 3", -1, hands -> hands.tried(trial, 0, 3));
            int high = what == 5 ? 4 : what == 0 || what == 3 ? 2 : 0;
            refused("tried " + what + ", i one too great", -1, hands -> hands.tried(trial, high + 1, 0));
        }
        for (int what : new int[] {LEAST, -1, 6, MOST}) {
            refusedByBoth("tried " + what, -1, hands -> hands.tried(what, 0, 0));
        }
    }

    /** Promise 34. */
    private static void refusedImage() {
        Twins.unchanged(check, "again of a new object", HalfHands::new, -1, HalfHands::again);
        Twins.unchanged(check, "again of no image", RefusedTest::noImage, -1, HalfHands::again);
    }

    private static HalfHands noImage() {
        HalfHands hands = used();
        hands.text(0);
        Check.tell(hands, "person a 9 purse 1;person b 60;person c 40;hands a to b;parcel a 9 0;");
        hands.hours(1);
        return hands;
    }

    /** By what a right call asks, nothing changes, either. */
    private static void asking() {
        asks("fault", hands -> hands.fault(1));
        asks("named", hands -> hands.named(0, Check.letters("c")));
        asks("look", hands -> hands.look(1, 6));
        asks("parcel", hands -> hands.parcel(4, 4));
        asks("coins", HalfHands::coins);
        asks("rest", HalfHands::rest);
        asks("arrives", hands -> hands.arrives(3, ROW, 999999));
        asks("keeps", hands -> hands.keeps(3, ROW, 999999, 1));
        asks("back", hands -> hands.back(3, ROW, 9, 0));
        asks("span", hands -> hands.span(3, ROW, 9, 0, 1));
        asks("best", hands -> hands.best(3, ROW, 9, 1));
        asks("order", hands -> hands.order(3, ROW, 9, 1));
        asks("just", hands -> hands.just(3, ROW, 9, 4));
        asks("first", hands -> hands.first(3, ROW, 9, 4));
        asks("bound", hands -> hands.bound(8, 9, 0));
        asks("gains", hands -> hands.gains(3, ROW, 9, 1, 1));
        asks("changes", hands -> hands.changes(3, ROW, 9, 4));
        asks("changed", hands -> hands.changed(3, ROW, 9, 4));
        asks("serves", hands -> hands.serves(3, ROW, 50));
        asks("law", hands -> hands.law(9, 8, 7, 6, 5));
        asks("fits", HalfHands::fits);
        asks("apart", hands -> hands.apart(3, ROW, 0, 2));
        for (int what = 0; what <= 5; what++) {
            int trial = what;
            asks("tried " + what, hands -> hands.tried(trial, 0, 1));
        }
        for (int what = 0; what <= 9; what++) {
            int number = what;
            asks("count " + what, hands -> hands.count(number));
        }
        asks("hours(0)", hands -> hands.hours(0));
        asks("known as it is", hands -> hands.known(3) ? 1 : 0);
        Twins.unchanged(check, "again twice", RefusedTest::backAgain, 2, HalfHands::again);
        Twins.unchanged(check, "keep twice", RefusedTest::keptTwice, 3, HalfHands::keep);
    }

    private static void asks(String what, Twins.Call call) {
        refused(what, call.answer(used()), call);
    }

    private static HalfHands backAgain() {
        HalfHands hands = used();
        hands.again();
        return hands;
    }

    private static HalfHands keptTwice() {
        HalfHands hands = used();
        hands.keep();
        hands.keep();
        return hands;
    }
}
