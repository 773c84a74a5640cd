/** Promises 27 to 31: note, strike, known, fits, apart. */
public final class NotesTest {
    private static final Check check = new Check();
    /** MAY 0: all odd ones stay, 1: those above 2 coins, 2: none; the law: those of the elder. */
    private static final String TEXT = "person a 1;person b 2;person c 3;person d 0;may all 1;may big coins>2;may no 0;";
    private static final long UP = Check.row(0, 1, 2);
    private static final long DOWN = Check.row(0, 1, 3);

    public static void main(String[] args) {
        notes();
        fitting();
        striking();
        knowing();
        fortyNotes();
        laws();
        check.end();
    }

    private static void notes() {
        HalfHands hands = Check.told(TEXT);
        check.same("first", hands.note(3, UP, 0, 0, 0), 0);
        check.same("second", hands.note(3, UP, 999999, 0, 999999), 1);
        check.same("coins -1", hands.note(3, UP, -1, 0, 0), -1);
        check.same("coins 1000000", hands.note(3, UP, 1000000, 0, 0), -1);
        check.same("low -1", hands.note(3, UP, 1, -1, 0), -1);
        check.same("high 1000000", hands.note(3, UP, 1, 0, 1000000), -1);
        check.same("high below low", hands.note(3, UP, 1, 2, 1), -1);
        check.same("low and high beyond", hands.note(3, UP, 1, 1000000, 1000000), -1);
        check.same("third", hands.note(2, Check.row(2, 0), 1, 5, 5), 2);
        check.same("count", hands.count(5), 3);
    }

    private static void fitting() {
        HalfHands hands = Check.told(TEXT);
        check.same("all", hands.fits(), 15);
        // of 3 coins along a, b, c: 1 by all and big, 2 by none and by the law
        hands.note(3, UP, 3, 1, 1);
        check.same("one", hands.fits(), 3);
        // of 1 coin: 0 by all, 1 by the others
        hands.note(3, UP, 1, 1, 1);
        check.same("two", hands.fits(), 2);
        hands.note(3, DOWN, 3, 1, 2);
        check.same("a span", hands.fits(), 2);
        hands.note(3, UP, 0, 1, 1);
        check.same("none", hands.fits(), 0);
        HalfHands other = Check.told(TEXT);
        other.note(3, DOWN, 1, 0, 0);
        check.same("all, and the elder's law", other.fits(), 9);
        HalfHands told = Check.told(TEXT + "law place;");
        told.note(3, UP, 1, 0, 0);
        check.same("all, and the law as told", told.fits(), 9);
        HalfHands wrong = Check.told("person a 1;person b 2;person c 3;may m 1/0;");
        wrong.note(3, UP, 1, 1, 1);
        check.same("with an error it goes on", wrong.fits(), 3);
    }

    private static void striking() {
        HalfHands hands = Check.told(TEXT);
        check.same("no note", hands.strike(0), -1);
        hands.note(3, UP, 3, 1, 1);
        hands.note(3, UP, 1, 1, 1);
        check.same("strike 0", hands.strike(0), 2);
        check.same("fits", hands.fits(), 14);
        check.same("strike 1", hands.strike(1), 3);
        check.same("fits", hands.fits(), 15);
        check.same("strike the strike of 0", hands.strike(2), 4);
        check.same("fits", hands.fits(), 3);
        check.same("strike that", hands.strike(4), 5);
        check.same("fits", hands.fits(), 15);
        check.same("strike 0 again", hands.strike(0), 6);
        check.same("strike 5", hands.strike(5), 7);
        check.same("4 counts again, 6 strikes 0", hands.fits(), 15);
        check.same("strike 6", hands.strike(6), 8);
        check.same("fits", hands.fits(), 3);
        check.same("-1", hands.strike(-1), -1);
        check.same("9", hands.strike(9), -1);
    }

    private static void knowing() {
        HalfHands hands = Check.told(TEXT);
        hands.note(3, UP, 3, 1, 1);
        hands.note(3, UP, 1, 1, 1);
        hands.strike(0);
        int[] due = {15, 3, 2, 14};
        for (int n = 0; n <= 3; n++) {
            check.same("known(" + n + ")", hands.known(n), true);
            check.same("fits by " + n, hands.fits(), due[n]);
            check.same("count(6)", hands.count(6), n);
        }
        check.same("known(4)", hands.known(4), false);
        check.same("known(-2)", hands.known(-2), false);
        check.same("still 3", hands.count(6), 3);
        hands.strike(1);
        check.same("not by those to come", hands.fits(), 14);
        check.same("known(-1)", hands.known(-1), true);
        check.same("by all", hands.fits(), 15);
        hands.strike(2);
        check.same("also those to come", hands.fits(), 3);
        check.same("count(6)", hands.count(6), 5);
    }

    private static void fortyNotes() {
        HalfHands hands = Check.told(TEXT);
        for (int i = 0; i < 38; i++) {
            check.same("note", hands.note(3, UP, 1, 0, 1), i);
        }
        check.same("strike", hands.strike(0), 38);
        check.same("note", hands.note(3, UP, 1, 0, 0), 39);
        check.same("a 41st", hands.note(3, UP, 1, 0, 0), -1);
        check.same("a 41st strike", hands.strike(0), -1);
        check.same("count", hands.count(5), 40);
        check.same("fits", hands.fits(), 1);
        check.same("known(40)", hands.known(40), true);
        check.same("known(41)", hands.known(41), false);
    }

    private static void laws() {
        HalfHands hands = Check.told(TEXT);
        check.same("all, big", hands.apart(3, UP, 0, 1), 1);
        check.same("big, no", hands.apart(3, UP, 1, 2), 3);
        check.same("no, the law, up", hands.apart(3, UP, 2, 3), -2);
        check.same("no, the law, down", hands.apart(3, DOWN, 2, 3), 1);
        check.same("the law, all, down", hands.apart(3, DOWN, 3, 0), -2);
        check.same("one alone", hands.apart(3, UP, 1, 1), -2);
        check.same("no carrier", hands.apart(2, Check.row(0, 1), 0, 2), -2);
        check.same("one 4", hands.apart(3, UP, 4, 0), -1);
        check.same("other 4", hands.apart(3, UP, 0, 4), -1);
        check.same("one -1", hands.apart(3, UP, -1, 0), -1);
        check.same("other -1", hands.apart(3, UP, 0, -1), -1);
        HalfHands late = Check.told("person a 1;person b 2;person c 3;may x coins=999;may y coins=1001;may z 0;");
        check.same("by 999", late.apart(3, UP, 0, 2), 999);
        check.same("beyond 999", late.apart(3, UP, 1, 2), -2);
    }
}
