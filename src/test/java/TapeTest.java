/** Promises 1 to 5: a new object, feed, text, fault, named. */
public final class TapeTest {
    private static final Check check = new Check();
    private static final String BLANKS = "                    ";

    public static void main(String[] args) {
        newObject();
        feeding();
        bytesOfNumbers();
        tellingEmptiesTheTape();
        bytesBehindTheText();
        tellingBeginsAnew();
        faultLeavesAll();
        names();
        check.end();
    }

    private static void newObject() {
        HalfHands hands = new HalfHands();
        for (int what = 0; what <= 9; what++) {
            check.same("count(" + what + ") of a new object", hands.count(what), 0);
        }
        check.same("fault(0)", hands.fault(0), 0);
        check.same("fault(1)", hands.fault(1), -1);
        check.same("fault(2)", hands.fault(2), -1);
        check.same("fault(-1)", hands.fault(-1), -1);
        check.same("named", hands.named(0, Check.letters("a")), -1);
        check.same("send", hands.send(0, 1), -1);
        check.same("parcel", hands.parcel(0, 0), -1);
        check.same("coins", hands.coins(), 0);
        check.same("rest", hands.rest(), 0);
        check.same("law", hands.law(1, 1, 1, 1, 1), Long.MIN_VALUE);
        check.same("serves", hands.serves(2, 16, 5), -1);
        check.same("worth", hands.worth(4, 0x3210, 5, 1), Integer.MIN_VALUE);
        check.same("strike", hands.strike(0), -1);
        check.same("known(0)", hands.known(0), true);
        check.same("known(1)", hands.known(1), false);
        check.same("fits", hands.fits(), 1);
        check.same("tried", hands.tried(1, 0, 0), -1);
        check.same("again", hands.again(), -1);
        check.same("hours(0)", hands.hours(0), 0);
        check.same("text(1) of an empty tape", hands.text(1), -2);
        check.same("text(0) of an empty tape", hands.text(0), 0);
    }

    private static void feeding() {
        HalfHands hands = new HalfHands();
        for (int i = 1; i <= 35; i++) {
            check.same("feed " + i, hands.feed(0x20202020, 0x20202020, 0x20202020, 0x20202020, 0x20202020), 20 * i);
        }
        check.same("feed beyond 700", hands.feed(0, 0, 0, 0, 0), -1);
        check.same("text(701)", hands.text(701), -2);
        check.same("nothing came by the refused feed", hands.text(700), 0);
        check.same("feed of an empty tape", hands.feed(0, 0, 0, 0, 0), 20);
    }

    private static void bytesOfNumbers() {
        HalfHands hands = new HalfHands();
        // "law 1+2*" "3;  " .. : the highest byte of a number is first
        hands.feed(0x6c617720, 0x312b322a, 0x333b2020, 0x0a0a0a0a, 0x20202020);
        check.same("text", hands.text(20), 1);
        check.same("law", hands.law(0, 0, 0, 0, 0), 7);
        hands.feed(0x20202020, 0xff202020, 0, 0, 0);
        check.same("a byte of 255", hands.text(20), -1);
        check.same("is no token", hands.fault(0), 1);
        check.same("at", hands.fault(1), 4);
    }

    private static void tellingEmptiesTheTape() {
        HalfHands hands = new HalfHands();
        Check.feedAll(hands, "person a 1;" + BLANKS);
        check.same("text(41) of 40", hands.text(41), -2);
        check.same("text(-1)", hands.text(-1), -2);
        check.same("text(-2147483648)", hands.text(Integer.MIN_VALUE), -2);
        check.same("the tape has stayed", hands.feed(0, 0, 0, 0, 0), 60);
        check.same("its first bytes", hands.text(11), 1);
        check.same("the tape is empty", hands.feed(0, 0, 0, 0, 0), 20);
        check.same("text of no token", hands.text(20), -1);
        check.same("the tape is empty with a fault, too", hands.feed(0, 0, 0, 0, 0), 20);
        check.same("fault before -2", hands.fault(0), 1);
        check.same("text(21)", hands.text(21), -2);
        check.same("fault behind -2 is still the other one's", hands.fault(0), 1);
        check.same("text(0)", hands.text(0), 0);
        check.same("fault(0)", hands.fault(0), 0);
        check.same("fault(1)", hands.fault(1), -1);
        check.same("no person is left", hands.count(0), 0);
    }

    /** The text ends within what would be one token with the bytes behind it. */
    private static void bytesBehindTheText() {
        String[] tapes = {"personx a 1;", "person a 100;", "law 1<=2;", "person a 1;q"};
        int[] sizes = {6, 10, 6, 11};
        int[] places = {6, 10, 6, -1};
        for (int i = 0; i < tapes.length; i++) {
            HalfHands hands = new HalfHands();
            Check.feedAll(hands, tapes[i]);
            check.same("text of a part of " + tapes[i], hands.text(sizes[i]), places[i] < 0 ? 1 : -1);
            check.same("its fault", hands.fault(0), places[i] < 0 ? 0 : 1);
            check.same("its place", hands.fault(1), places[i]);
        }
    }

    private static void tellingBeginsAnew() {
        HalfHands hands = Check.told("person a 1 purse 5;person b 2;hands a to b;parcel a 7 0;may m 1;law 0;");
        hands.hours(3);
        hands.send(1, 4);
        hands.hours(2);
        hands.note(2, 0x10, 3, 3, 3);
        hands.known(0);
        hands.keep();
        check.same("text", Check.tell(hands, "person c 3 purse 8;"), 1);
        int[] counts = {1, 0, 0, 0, 0, 0, 0, 0, 0, 0};
        for (int what = 0; what <= 9; what++) {
            check.same("count(" + what + ") behind text", hands.count(what), counts[what]);
        }
        check.same("purse as told", hands.look(0, 1), 8);
        check.same("no ways", hands.look(0, 2), 0);
        check.same("no image", hands.again(), -1);
        check.same("no law", hands.law(1, 1, 1, 1, 1), Long.MIN_VALUE);
        Check.tell(hands, "person a 1;person b 2;");
        check.same("note", hands.note(2, 0x10, 3, 3, 3), 0);
        check.same("all known", hands.count(6), 1);
    }

    private static void faultLeavesAll() {
        HalfHands hands = Check.told("person a 9 purse 5;person b 2;hands a to b;parcel a 7 0;may m 1;law 0;");
        hands.hours(1);
        hands.note(2, 0x10, 3, 3, 3);
        hands.known(0);
        hands.keep();
        hands.hours(1);
        check.same("a text with a fault", Check.tell(hands, "person q 4;law 1;law 2;"), -1);
        check.same("fault", hands.fault(0), 3);
        check.same("at", hands.fault(1), 17);
        int[] counts = {2, 1, 1, 2, 2, 1, 0, 0, 1, 1};
        for (int what = 0; what <= 9; what++) {
            check.same("count(" + what + ") behind a fault", hands.count(what), counts[what]);
        }
        check.same("law", hands.law(1, 1, 1, 1, 1), 0);
        check.same("the purse", hands.look(1, 1), 7);
        check.same("the image", hands.again(), 1);
        check.same("a name", hands.named(0, Check.letters("q")), -1);
    }

    private static void names() {
        HalfHands hands = Check.told("person a 1;person ab 1;person abcdef 1;person z 1;may m 1;may zzzzzz 1;may a 1;");
        check.same("a", hands.named(0, 1 << 25), 0);
        check.same("ab", hands.named(0, 1 << 25 | 2 << 20), 1);
        check.same("abcdef", hands.named(0, Check.letters("abcdef")), 2);
        check.same("z", hands.named(0, 26 << 25), 3);
        check.same("m is no person", hands.named(0, Check.letters("m")), -1);
        check.same("m", hands.named(1, Check.letters("m")), 0);
        check.same("zzzzzz", hands.named(1, Check.letters("zzzzzz")), 1);
        check.same("a of its own kind", hands.named(1, Check.letters("a")), 2);
        check.same("z is no may", hands.named(1, Check.letters("z")), -1);
        check.same("letters lowest", hands.named(0, 1), -1);
        check.same("no letters", hands.named(0, 0), -1);
        check.same("below 0", hands.named(0, -1), -1);
        check.same("more bits", hands.named(0, 1 << 25 | 1 << 30), -1);
        check.same("what 2", hands.named(2, 1 << 25), -1);
        check.same("what -1", hands.named(-1, 1 << 25), -1);
    }
}
