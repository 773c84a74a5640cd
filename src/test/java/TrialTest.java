/** Promises 32 to 35: tried, keep, again, count. */
public final class TrialTest {
    private static final Check check = new Check();

    public static void main(String[] args) {
        trials();
        wrongTrials();
        trialsChangeNothing();
        images();
        imageKeepsAllButNotes();
        counts();
        check.end();
    }

    private static long[] purses(HalfHands hands, int what, int i) {
        long[] purses = new long[hands.count(0)];
        for (int j = 0; j < purses.length; j++) {
            purses[j] = hands.tried(what, i, j);
        }
        return purses;
    }

    /** b (60) keeps odd ones towards c (40) and d (50), c those towards nobody younger. */
    private static HalfHands world() {
        return Check.told("person a 9 purse 1;person b 60;person c 40;person d 50;hands a to b;hands b to c or d;"
                + "hands c to d;parcel a 11 0;parcel a 7 1;");
    }

    private static void trials() {
        HalfHands hands = world();
        check.all("before any hour", purses(hands, 4, 0), 1, 0, 0, 0);
        hands.hours(2);
        hands.send(1, 3);
        check.all("not yet sent by call", purses(hands, 0, 0), 19, 0, 0, 0);
        hands.hours(4);
        // as told: b keeps 6 of 11 and 4 of 7; 5 to c, and then b's own 3 to d ahead of what is left of 7, to c
        check.all("a hands to nobody", purses(hands, 0, 0), 19, 0, 1, 2);
        check.all("b hands to nobody", purses(hands, 0, 1), 1, 21, 0, 0);
        check.all("c hands to nobody", purses(hands, 0, 2), 1, 10, 8, 3);
        check.all("d hands to nobody", purses(hands, 0, 3), 1, 10, 3, 8);
        check.all("all are 0 old", purses(hands, 1, 0), 1, 8, 5, 8);
        check.all("the first way alone", purses(hands, 2, 0), 1, 10, 4, 7);
        check.all("c keeps all odd ones", purses(hands, 3, 2), 1, 10, 5, 6);
        check.all("b keeps all odd ones", purses(hands, 3, 1), 1, 10, 3, 8);
        check.all("no odd one is kept", purses(hands, 4, 0), 1, 8, 5, 8);
        check.all("parcel 0 isn't sent", purses(hands, 5, 0), 1, 4, 1, 5);
        check.all("parcel 2 isn't sent", purses(hands, 5, 2), 1, 10, 2, 6);
    }

    private static void wrongTrials() {
        HalfHands hands = world();
        hands.hours(5);
        check.same("what -1", hands.tried(-1, 0, 0), -1);
        check.same("what 6", hands.tried(6, 0, 0), -1);
        for (int what = 0; what <= 5; what++) {
            check.same("j 4 of " + what, hands.tried(what, 0, 4), -1);
            check.same("j -1 of " + what, hands.tried(what, 0, -1), -1);
            check.same("i -1 of " + what, hands.tried(what, -1, 0), -1);
            check.same("i 4 of " + what, hands.tried(what, 4, 0), -1);
            int high = what == 5 ? 1 : what == 0 || what == 3 ? 3 : 0;
            check.same("the highest i of " + what, hands.tried(what, high, 0) >= 0, true);
            check.same("one more of " + what, hands.tried(what, high + 1, 0), -1);
        }
    }

    private static void trialsChangeNothing() {
        HalfHands hands = world();
        HalfHands twin = world();
        for (int hour = 0; hour < 6; hour++) {
            purses(hands, hour, 0);
            hands.rest();
            hands.hours(1);
            twin.hours(1);
            for (int person = 0; person < 4; person++) {
                check.same("purse", hands.look(person, 1), twin.look(person, 1));
                check.same("turn", hands.look(person, 6), twin.look(person, 6));
            }
        }
    }

    private static void images() {
        HalfHands hands = world();
        check.same("no image", hands.again(), -1);
        hands.hours(2);
        check.same("keep", hands.keep(), 2);
        long coins = hands.coins();
        hands.send(0, 5);
        hands.hours(3);
        check.same("again", hands.again(), 2);
        check.same("coins", hands.coins(), coins);
        check.same("parcels", hands.count(1), 2);
        check.same("hour", hands.count(4), 2);
        check.same("turn", hands.look(1, 6), 1);
        check.same("to whom", hands.parcel(0, 6), 2);
        check.same("purse", hands.look(1, 1), 6);
        check.same("tried from the image on", hands.tried(0, 0, 0), 19);
        hands.hours(4);
        check.same("again a second time", hands.again(), 2);
        hands.hours(4);
        check.same("another image", hands.keep(), 6);
        hands.hours(1);
        check.same("in place of the one ahead", hands.again(), 6);
        Check.tell(hands, "person");
        check.same("a fault leaves the image", hands.again(), 6);
        Check.tell(hands, "person a 1;");
        check.same("a text leaves none", hands.again(), -1);
    }

    private static void imageKeepsAllButNotes() {
        HalfHands hands = Check.told("person a 9;person b 1;");
        hands.note(2, 0x10, 5, 5, 5);
        hands.keep();
        hands.note(2, 0x10, 6, 6, 6);
        hands.strike(0);
        hands.again();
        check.same("notes stay", hands.count(5), 3);
        check.same("the next note", hands.note(2, 0x10, 5, 4, 4), 3);
        check.same("fits", hands.fits(), 0);
    }

    private static void counts() {
        HalfHands hands = Check.told("person a 1;person b 2;hands a to b;parcel a 5 1;parcel b 5 0;parcel a 5 9;"
                + "may m coins+1;may n 0;law not age;");
        hands.hours(2);
        hands.send(0, 1);
        hands.note(2, 0x10, 5, 5, 5);
        hands.note(2, 0x10, 5, 5, 5);
        hands.known(1);
        int[] due = {2, 4, 2, 6, 2, 2, 1, 1, 1, 3};
        for (int what = 0; what <= 9; what++) {
            check.same("count(" + what + ")", hands.count(what), due[what]);
        }
        check.same("count(-1)", hands.count(-1), -1);
        check.same("count(10)", hands.count(10), -1);
        hands.known(-1);
        check.same("known by all", hands.count(6), 2);
        hands.strike(0);
        check.same("and by those to come", hands.count(6), 3);
    }
}
