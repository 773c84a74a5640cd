/**
 * The edges of what is TRIED, of an IMAGE (part 4 of the Terms) and of promises 32 to 35; above each method is the
 * sentence of the document that it is for.
 */
public final class EdgeTrialTest {
    private static final Check check = new Check();

    public static void main(String[] args) {
        whatIsTried();
        whoIsTried();
        whoseParcel();
        noughtOfOthers();
        whosePurse();
        upToNow();
        fromNoughtOn();
        sentByCall();
        handsToNobody();
        allAreNoughtOld();
        firstAlone();
        keepsAllOddOnes();
        noOddOne();
        parcelIsNotSent();
        hundredHandsTried();
        noImage();
        inPlaceOfOneAhead();
        imageOfANewObject();
        imageAtTheEnds();
        allButNotes();
        sentBehindTheImage();
        fullAgain();
        whatOfCount();
        countsAtTheEnds();
        check.end();
    }

    /** a hands to b, b to c or d, c to d; b keeps odd ones towards both, c none. */
    private static HalfHands world() {
        return Check.told("person a 9 purse 1;person b 60;person c 40;person d 50;hands a to b;hands b to c or d;"
                + "hands c to d;parcel a 11 0;parcel a 7 1;");
    }

    private static long[] purses(HalfHands hands, int what, int i) {
        long[] purses = new long[hands.count(0)];
        for (int j = 0; j < purses.length; j++) {
            purses[j] = hands.tried(what, i, j);
        }
        return purses;
    }

    /** "0 PERSON i hands to nobody, .. 5 PARCEL i isn't sent"; promise 32: "NONE: no such ones". */
    private static void whatIsTried() {
        HalfHands hands = world();
        hands.hours(9);
        check.bounds("what", 0, 5, -1, what -> hands.tried(what, 0, 3));
    }

    /** "0 PERSON i hands to nobody", "3 PERSON i keeps all odd ones": no such PERSON. */
    private static void whoIsTried() {
        for (int people : new int[] {1, 2, 9, 10}) {
            HalfHands hands = Check.told(Check.people(people));
            check.bounds("PERSON i of 0", 0, people - 1, -1, i -> hands.tried(0, i, 0));
            check.bounds("PERSON i of 3", 0, people - 1, -1, i -> hands.tried(3, i, 0));
        }
        check.same("nobody", new HalfHands().tried(0, 0, 0), -1);
    }

    /** "5 PARCEL i isn't sent": no such PARCEL. */
    private static void whoseParcel() {
        HalfHands hands = Check.told("person a 1;");
        check.same("no PARCEL", hands.tried(5, 0, 0), -1);
        for (int parcels = 1; parcels <= 30; parcels++) {
            hands.send(0, 1);
            check.same("the last of " + parcels, hands.tried(5, parcels - 1, 0), 0);
            check.same("one behind it", hands.tried(5, parcels, 0), -1);
        }
        check.bounds("PARCEL i of 5", 0, 29, -1, i -> hands.tried(5, i, 0));
    }

    /** Promise 32: "(i 0 of 1, 2, 4)". */
    private static void noughtOfOthers() {
        HalfHands hands = world();
        hands.hours(9);
        for (int what : new int[] {1, 2, 4}) {
            check.bounds("i of " + what, 0, 0, -1, i -> hands.tried(what, i, 1));
        }
    }

    /** "what PERSON j has in the purse". */
    private static void whosePurse() {
        HalfHands hands = world();
        hands.hours(9);
        for (int what = 0; what <= 5; what++) {
            int number = what;
            check.bounds("PERSON j of " + what, 0, 3, -1, j -> hands.tried(number, 0, j));
        }
    }

    /** "TRIED up to now": each HOUR that has gone by, and no other. */
    private static void upToNow() {
        HalfHands hands = Check.told("person a 9 purse 2;person b 1;person c 1;hands a to b;hands b to c;parcel a 9 1;");
        // no odd one is kept: b 4, c 5
        long[][] due = {{2, 0, 0}, {2, 0, 0}, {2, 0, 0}, {2, 4, 0}, {2, 4, 5}, {2, 4, 5}};
        for (int hour = 0; hour < due.length; hour++) {
            check.all("at " + hour, purses(hands, 4, 0), due[hour]);
            hands.hours(1);
        }
    }

    /** "(all HOURS from 0 on ..)": what is tried was so from the first HOUR on, purses as told. */
    private static void fromNoughtOn() {
        HalfHands hands = Check.told("person a 9 purse 5;person b 7 purse 6;person c 1;hands a to b;hands b to c;"
                + "parcel a 9 0;");
        hands.hours(300);
        check.same("b has", hands.look(1, 1), 6 + 5);
        check.all("b hands to nobody", purses(hands, 0, 1), 5, 6 + 9, 0);
        check.all("a hands to nobody", purses(hands, 0, 0), 5 + 9, 6, 0);
        check.all("parcel 0 isn't sent", purses(hands, 5, 0), 5, 6, 0);
    }

    /** "(.. with what was sent by call)": in its HOUR; what waits for the next HOUR isn't there yet. */
    private static void sentByCall() {
        HalfHands hands = Check.told("person a 9;person b 7;hands a to b;");
        hands.hours(4);
        hands.send(0, 8);
        check.all("waits", purses(hands, 4, 0), 0, 0);
        hands.hours(1);
        check.all("is sent", purses(hands, 4, 0), 0, 0);
        hands.hours(1);
        check.all("has come", purses(hands, 4, 0), 0, 8);
        check.all("isn't sent", purses(hands, 5, 0), 0, 0);
        check.all("stays", purses(hands, 0, 0), 8, 0);
    }

    /** "0 PERSON i hands to nobody". */
    private static void handsToNobody() {
        HalfHands hands = world();
        hands.hours(9);
        check.all("a: what is his stays his", purses(hands, 0, 0), 19, 0, 0, 0);
        check.all("b: what comes he keeps", purses(hands, 0, 1), 1, 18, 0, 0);
        check.all("c", purses(hands, 0, 2), 1, 10, 5, 3);
        check.all("d does so anyway", purses(hands, 0, 3), 1, 10, 2, 6);
        for (int person = 0; person < 4; person++) {
            check.same("as it is", hands.look(person, 1), hands.tried(0, 3, person));
        }
    }

    /** "1 all are 0 old": nobody is older, by the law and without it. */
    private static void allAreNoughtOld() {
        HalfHands hands = world();
        hands.hours(9);
        check.all("without a law", purses(hands, 1, 0), 1, 8, 3, 7);
        String people = "person a 9;person b 60;person c 40;hands a to b;hands b to c;parcel a 7 0;";
        int[] kept = {4, 3, 4, 3, 4, 3};
        String[] laws = {"age=0", "age", "next=0", "next", "not elder", "elder"};
        for (int i = 0; i < laws.length; i++) {
            HalfHands told = Check.told(people + "law " + laws[i] + ";");
            told.hours(3);
            check.same(laws[i], told.tried(1, 0, 1), kept[i]);
            check.same(laws[i] + " as it is", told.look(1, 1), 7 - kept[i]);
        }
    }

    /** "2 the first of those to whom each hands alone". */
    private static void firstAlone() {
        HalfHands hands = Check.told(Check.people(4) + "hands a to d or c or b;parcel a 1 0;parcel a 2 0;parcel a 4 0;"
                + "parcel a 8 0;");
        hands.hours(2);
        check.all("all to d", purses(hands, 2, 0), 0, 0, 0, 15);
        check.all("as it is", purses(hands, 4, 0), 0, 4, 2, 9);
    }

    /** "3 PERSON i keeps all odd ones". */
    private static void keepsAllOddOnes() {
        HalfHands hands = world();
        hands.hours(9);
        check.all("c too", purses(hands, 3, 2), 1, 10, 3, 5);
        check.all("a is only from whom it is", purses(hands, 3, 0), 1, 10, 2, 6);
        check.all("b does so anyway", purses(hands, 3, 1), 1, 10, 2, 6);
        check.all("d hands to nobody", purses(hands, 3, 3), 1, 10, 2, 6);
        HalfHands error = Check.told("person a 1;person b 1;person c 1;hands a to b;hands b to c;parcel a 1 0;law 1/0;");
        error.hours(3);
        check.all("an ERROR, too", purses(error, 3, 1), 0, 1, 0);
        check.all("as it is", purses(error, 3, 0), 0, 0, 1);
    }

    /** "4 no odd one is kept". */
    private static void noOddOne() {
        HalfHands hands = world();
        hands.hours(9);
        check.all("none", purses(hands, 4, 0), 1, 8, 3, 7);
        HalfHands stays = Check.told("person a 1;person b 1;person c 1;hands a to b;hands b to c;parcel a 1 0;law 1;");
        stays.hours(3);
        check.all("by a law that keeps it", purses(stays, 4, 0), 0, 0, 1);
    }

    /** "5 PARCEL i isn't sent": its turn isn't taken, the others keep their numbers. */
    private static void parcelIsNotSent() {
        HalfHands hands = Check.told(Check.people(3) + "hands a to b or c;parcel a 1 0;parcel a 2 0;parcel a 4 0;");
        hands.send(0, 8);
        hands.hours(2);
        check.all("0", purses(hands, 5, 0), 0, 10, 4);
        check.all("1", purses(hands, 5, 1), 0, 9, 4);
        check.all("2", purses(hands, 5, 2), 0, 9, 2);
        check.all("3", purses(hands, 5, 3), 0, 5, 2);
        check.same("4", hands.tried(5, 4, 1), -1);
    }

    /** "it has been in 100 HANDS (this one told)": when it is tried, too. */
    private static void hundredHandsTried() {
        HalfHands hands = Check.told("person a 1;person b 1;hands a to b;hands b to a;parcel a 1 0;law 1;");
        hands.hours(100);
        check.all("99 HANDS", purses(hands, 4, 0), 0, 0);
        hands.hours(1);
        check.all("100 HANDS", purses(hands, 4, 0), 1, 0);
        hands.hours(1);
        check.all("no more", purses(hands, 4, 0), 1, 0);
    }

    /** Promise 34: "NONE: there is none." */
    private static void noImage() {
        check.same("of a new object", new HalfHands().again(), -1);
        HalfHands hands = world();
        check.same("of a text", hands.again(), -1);
        hands.hours(2);
        check.same("still", hands.again(), -1);
        check.same("the HOUR stays", hands.count(4), 2);
        hands.keep();
        check.same("there is one", hands.again(), 2);
        check.same("it is still there", hands.again(), 2);
        hands.text(1);
        check.same("behind -2", hands.again(), 2);
        Check.tell(hands, "!");
        check.same("behind a FAULT", hands.again(), 2);
        hands.text(0);
        check.same("behind a TEXT there is none", hands.again(), -1);
    }

    /** Promise 33: "(in place of one ahead)". */
    private static void inPlaceOfOneAhead() {
        HalfHands hands = world();
        check.same("keep", hands.keep(), 0);
        hands.hours(1);
        check.same("keep", hands.keep(), 1);
        hands.hours(1);
        check.same("again", hands.again(), 1);
        check.same("not the one ahead", hands.again(), 1);
        hands.hours(5);
        check.same("keep", hands.keep(), 6);
        check.same("again", hands.again(), 6);
    }

    /** Promises 33, 34, without a TEXT. */
    private static void imageOfANewObject() {
        HalfHands hands = new HalfHands();
        check.same("keep", hands.keep(), 0);
        hands.hours(7);
        check.same("again", hands.again(), 0);
        check.same("HOUR", hands.count(4), 0);
        check.same("hours", hands.hours(1), 1);
    }

    /** Promises 33, 34, at HOUR 0 and at HOUR 3000. */
    private static void imageAtTheEnds() {
        HalfHands hands = world();
        for (int i = 0; i < 10; i++) {
            hands.hours(300);
        }
        check.same("keep at 3000", hands.keep(), 3000);
        check.same("no more", hands.hours(1), -1);
        check.same("again", hands.again(), 3000);
        HalfHands back = world();
        back.keep();
        for (int i = 0; i < 10; i++) {
            back.hours(300);
        }
        check.same("again at 3000", back.again(), 0);
        check.same("300 more", back.hours(300), 300);
        check.same("d has", back.look(3, 1), 6);
    }

    /** "An IMAGE keeps all but NOTES." */
    private static void allButNotes() {
        HalfHands hands = world();
        hands.hours(2);
        hands.note(3, 0x210, 4, 2, 2);
        hands.send(1, 5);
        long[][] parcels = {Check.parcel(hands, 0), Check.parcel(hands, 1), Check.parcel(hands, 2)};
        long[][] people = {Check.person(hands, 0), Check.person(hands, 1), Check.person(hands, 2)};
        long coins = hands.coins();
        hands.keep();
        hands.note(3, 0x210, 4, 9, 9);
        hands.hours(2);
        hands.send(0, 6);
        hands.hours(7);
        check.same("again", hands.again(), 2);
        for (int i = 0; i < 3; i++) {
            check.all("PARCEL " + i, Check.parcel(hands, i), parcels[i]);
            check.all("PERSON " + i, Check.person(hands, i), people[i]);
        }
        check.same("PARCELS", hands.count(1), 3);
        check.same("PARCEL 3", hands.parcel(3, 0), -1);
        check.same("coins", hands.coins(), coins);
        check.same("NOTES", hands.count(5), 2);
        check.same("fits", hands.fits(), 0);
        check.same("number of the next", hands.send(0, 3), 3);
        check.same("its hour", hands.parcel(3, 2), 2);
        check.same("number of the next note", hands.strike(1), 2);
        check.same("fits", hands.fits(), 1);
        HalfHands none = world();
        none.keep();
        none.note(3, 0x210, 4, 9, 9);
        none.again();
        check.same("of an IMAGE without NOTES", none.count(5), 1);
    }

    /** A PARCEL that is sent behind the IMAGE is a new one, whatever had its number ahead. */
    private static void sentBehindTheImage() {
        HalfHands hands = Check.told(Check.people(3) + "hands a to b;hands b to c;");
        hands.keep();
        hands.send(0, 8);
        hands.hours(2);
        check.all("under way", Check.parcel(hands, 0), 0, 8, 0, 1, 4, 1, 2);
        hands.again();
        check.same("none", hands.parcel(0, 0), -1);
        check.same("its number", hands.send(1, 9), 0);
        check.all("not sent yet", Check.parcel(hands, 0), 1, 9, 0, 0, 0, 0, -1);
        check.same("coins", hands.coins(), 0);
        hands.hours(1);
        check.all("sent", Check.parcel(hands, 0), 1, 9, 0, 1, 9, 0, 2);
    }

    /** With 30 PARCELS in the IMAGE or behind it. */
    private static void fullAgain() {
        HalfHands hands = Check.told("person a 1;");
        for (int i = 0; i < 29; i++) {
            hands.send(0, 1);
        }
        hands.keep();
        check.same("the 30th", hands.send(0, 1), 29);
        check.same("a 31st", hands.send(0, 1), -1);
        hands.again();
        check.same("29 are left", hands.count(1), 29);
        check.same("the 30th", hands.send(0, 2), 29);
        check.same("its coins", hands.parcel(29, 1), 2);
        hands.keep();
        hands.again();
        check.same("a 31st", hands.send(0, 1), -1);
    }

    /** Promise 35: "NONE for another what." */
    private static void whatOfCount() {
        HalfHands hands = world();
        check.bounds("what of count", 0, 9, -1, hands::count);
        HalfHands fresh = new HalfHands();
        check.bounds("what of count", 0, 9, -1, fresh::count);
    }

    /** Promise 35, each at its most. */
    private static void countsAtTheEnds() {
        HalfHands hands = Check.told(Check.people(10) + "hands a to b;hands b to a;" + Check.times(12, "parcel a 1 0;")
                + "may a 1;may b 1;may c 1;may d 0" + Check.times(30, "+0") + ";");
        for (int i = 0; i < 18; i++) {
            hands.send(2, 1);
        }
        for (int i = 0; i < 40; i++) {
            hands.note(2, 0x10, 1, 1, 1);
        }
        long[] due = {10, 30, 4, 64, 0, 40, 40, 0, 0, 12};
        long[] later = {10, 30, 4, 64, 1, 40, 40, 12, 18, 12};
        long[] atLast = {10, 30, 4, 64, 3000, 40, 0, 0, 30, 12};
        check.all("at first", counts(hands), due);
        hands.hours(1);
        check.all("under way and at rest", counts(hands), later);
        hands.known(0);
        for (int i = 0; i < 9; i++) {
            hands.hours(300);
        }
        hands.hours(299);
        check.all("at last", counts(hands), atLast);
    }

    private static long[] counts(HalfHands hands) {
        long[] counts = new long[10];
        for (int what = 0; what <= 9; what++) {
            counts[what] = hands.count(what);
        }
        return counts;
    }
}
