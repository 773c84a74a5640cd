/** The edges of promises 1 to 5; above each method is the sentence of the document that it is for. */
public final class EdgeTapeTest {
    private static final Check check = new Check();
    private static final int BLANKS = 0x20202020;

    public static void main(String[] args) {
        noText();
        sevenHundred();
        highestFirst();
        wholeTape();
        soManyBytes();
        emptyThen();
        emptyText();
        anew();
        anewUnderWay();
        nothingOfTextsAhead();
        withAFault();
        tapeStays();
        latestText();
        otherWhatOfFault();
        noneSuch();
        otherWhatOfNamed();
        fiveHundredAndTwelve();
        check.end();
    }

    /** Promise 1: "No TEXT, HOUR 0 is next, an empty TAPE." */
    private static void noText() {
        HalfHands hands = new HalfHands();
        for (int what = 0; what <= 9; what++) {
            check.same("count(" + what + ")", hands.count(what), 0);
        }
        check.same("fault(0)", hands.fault(0), 0);
        check.same("fault(1)", hands.fault(1), -1);
        check.same("look", Check.look(hands, 0, 0), Check.OUT_OF_BOUNDS);
        check.same("send", hands.send(0, 1), -1);
        check.same("parcel", hands.parcel(0, 0), -1);
        check.same("coins", hands.coins(), 0);
        check.same("rest", hands.rest(), 0);
        check.same("bound", hands.bound(1, 1, 0), 1);
        check.same("fits", hands.fits(), 1);
        check.same("named", hands.named(0, 0), -1);
        check.same("law", hands.law(0, 0, 0, 0, 0), Long.MIN_VALUE);
        check.same("again", hands.again(), -1);
        check.same("text(1)", hands.text(1), -2);
        check.same("keep", hands.keep(), 0);
        check.same("hours(300)", hands.hours(300), 300);
        check.same("again", hands.again(), 0);
        check.same("feed", hands.feed(0, 0, 0, 0, 0), 20);
    }

    private static HalfHands fed(int times) {
        HalfHands hands = new HalfHands();
        for (int i = 0; i < times; i++) {
            hands.feed(BLANKS, BLANKS, BLANKS, BLANKS, BLANKS);
        }
        return hands;
    }

    /** Promise 2: "NONE, and none come, if it would have more than 700." */
    private static void sevenHundred() {
        check.same("the first twenty", fed(0).feed(BLANKS, 0, 0, 0, 0), 20);
        check.same("of 660", fed(33).feed(0, 0, 0, 0, 0), 680);
        check.same("of 680", fed(34).feed(0, 0, 0, 0, 0), 700);
        HalfHands full = fed(35);
        check.same("of 700", full.feed(-1, -1, -1, -1, -1), -1);
        check.same("of 700 again", full.feed(-1, -1, -1, -1, -1), -1);
        check.same("there are no 701", full.text(701), -2);
        check.same("none came", full.text(700), 0);
        check.same("a place for them behind text", full.feed(BLANKS, 0, 0, 0, 0), 20);
    }

    /** Promise 2: "Twenty bytes come behind the TAPE, four of each number, the highest first". */
    private static void highestFirst() {
        for (int number = 0; number < 5; number++) {
            for (int at = 0; at < 4; at++) {
                for (int bad : new int[] {0, 1, 0x7f, 0x80, 0xff}) {
                    int[] numbers = {BLANKS, BLANKS, BLANKS, BLANKS, BLANKS};
                    numbers[number] = BLANKS & ~(0xff << 24 - 8 * at) | bad << 24 - 8 * at;
                    HalfHands hands = fed(1);
                    hands.feed(numbers[0], numbers[1], numbers[2], numbers[3], numbers[4]);
                    check.same("byte " + bad, hands.text(40), -1);
                    check.same("its place", hands.fault(1), 20 + 4 * number + at);
                }
            }
        }
        HalfHands hands = new HalfHands();
        hands.feed(0x6c617720, 0x31323334, 0x3b6d6179, 0x20616263, 0x20353b20);
        check.same("law 1234;may abc 5;", hands.text(20), 2);
        check.same("1234", hands.law(0, 0, 0, 0, 0), 1234);
        check.same("abc", hands.named(1, Check.letters("abc")), 0);
    }

    /** Promises 2, 3: a TEXT of all 700 bytes. */
    private static void wholeTape() {
        String blanks = Check.times(694, " ");
        check.faultless("law 1" + blanks + ";", 1);
        check.marked(1, "law 1;" + blanks.substring(1) + "^!");
        check.marked(1, "law 1" + blanks + " ^");
        check.marked(1, "law 1;" + blanks.substring(2) + "^la");
        HalfHands hands = Check.told(blanks + "law 1;");
        check.same("the last bytes count", hands.law(0, 0, 0, 0, 0), 1);
        check.same("knots", hands.count(3), 1);
    }

    /** Promise 3: "-2 ..: there are not so many, n is below 0." */
    private static void soManyBytes() {
        HalfHands hands = fed(2);
        check.same("41 of 40", hands.text(41), -2);
        check.same("42 of 40", hands.text(42), -2);
        check.same("700 of 40", hands.text(700), -2);
        check.same("greatest", hands.text(Integer.MAX_VALUE), -2);
        check.same("-1", hands.text(-1), -2);
        check.same("least", hands.text(Integer.MIN_VALUE), -2);
        check.same("40 of 40", hands.text(40), 0);
        check.same("39 of 40", fed(2).text(39), 0);
        check.same("1 of 40", fed(2).text(1), 0);
        check.same("0 of 40", fed(2).text(0), 0);
        check.same("1 of 0", fed(0).text(1), -2);
        check.same("0 of 0", fed(0).text(0), 0);
        check.same("-1 of 0", fed(0).text(-1), -2);
        check.same("701 of 700", fed(35).text(701), -2);
        check.same("700 of 700", fed(35).text(700), 0);
        String text = "person ab 12;";
        int[] faults = {0, 0, 0, 0, 0, 0, 6, 7, 8, 9, 10, 11, 12, -1};
        for (int n = 1; n <= text.length(); n++) {
            HalfHands part = new HalfHands();
            Check.feedAll(part, text);
            check.same("the first " + n, part.text(n), n == text.length() ? 1 : -1);
            check.same("its fault's place", part.fault(1), faults[n]);
        }
    }

    /** Promise 3: "The TAPE's first n bytes (it is empty then)": those behind n are gone, too. */
    private static void emptyThen() {
        for (int n : new int[] {0, 1, 11, 12, 39, 40}) {
            HalfHands hands = new HalfHands();
            Check.feedAll(hands, "person a 1; !" + Check.times(27, " "));
            hands.text(n);
            check.same("empty behind text(" + n + ")", hands.text(1), -2);
            check.same("feed behind text(" + n + ")", hands.feed(BLANKS, BLANKS, BLANKS, BLANKS, BLANKS), 20);
            check.same("the bytes fed alone", hands.text(20), 0);
        }
    }

    /** Promise 3: a TEXT of no LINE at all. */
    private static void emptyText() {
        HalfHands hands = Check.told("person a 1 purse 5;law 1;may m 1;parcel a 1 0;");
        hands.hours(1);
        check.same("text(0)", hands.text(0), 0);
        for (int what = 0; what <= 9; what++) {
            check.same("count(" + what + ")", hands.count(what), 0);
        }
        check.same("look", Check.look(hands, 0, 0), Check.OUT_OF_BOUNDS);
        check.same("named", hands.named(0, Check.letters("a")), -1);
        check.same("named", hands.named(1, Check.letters("m")), -1);
        check.same("law", hands.law(1, 1, 1, 1, 1), Long.MIN_VALUE);
        check.same("coins", hands.coins(), 0);
        check.same("fits", hands.fits(), 1);
    }

    private static HalfHands wellUsed() {
        HalfHands hands = Check.told("person a 1 purse 5;person b 2;hands a to b;parcel a 7 0;may m 1;law 0;");
        hands.hours(1);
        hands.send(1, 4);
        hands.hours(1);
        hands.note(2, 0x10, 3, 9, 9);
        hands.note(2, 0x10, 3, 3, 3);
        hands.known(1);
        hands.keep();
        return hands;
    }

    /** Promise 3: "(HOUR 0 is next, purses as told, no NOTES, IMAGE, nothing sent by call, all KNOWN then)". */
    private static void anew() {
        HalfHands hands = wellUsed();
        check.same("text", Check.tell(hands, "person a 1 purse 6;person b 2;hands a to b;parcel a 7 3;"), 4);
        check.same("HOUR 0 is next", hands.count(4), 0);
        check.same("purse as told", hands.look(0, 1), 6);
        check.same("purse without", hands.look(1, 1), 0);
        check.same("turn", hands.look(0, 6), 0);
        check.same("no NOTES", hands.count(5), 0);
        check.same("no strike of one", hands.strike(0), -1);
        check.same("no IMAGE", hands.again(), -1);
        check.same("nothing sent by call", hands.count(1), 1);
        check.same("parcel 1", hands.parcel(1, 0), -1);
        check.all("parcel 0 as told", Check.parcel(hands, 0), 0, 7, 3, 0, 0, 0, -1);
        check.same("no law", hands.law(1, 1, 1, 1, 1), Long.MIN_VALUE);
        check.same("no MAY", hands.count(2), 0);
        check.same("fits", hands.fits(), 1);
        hands.note(2, 0x10, 3, 3, 3);
        hands.note(2, 0x10, 3, 9, 9);
        check.same("all KNOWN", hands.count(6), 2);
        check.same("by both it can't be", hands.fits(), 0);
    }

    /** Promise 3: PARCELS that were under way are so no longer. */
    private static void anewUnderWay() {
        String text = "person a 1;person b 1;person c 1;hands a to b or c;hands b to c;parcel a 8 0;parcel a 6 0;"
                + "parcel a 2 0;";
        HalfHands hands = Check.told(text);
        hands.hours(2);
        hands.send(0, 9);
        check.all("under way", Check.parcel(hands, 0), 0, 8, 0, 1, 4, 1, 2);
        check.same("turn", hands.look(0, 6), 1);
        check.same("the same text", Check.tell(hands, text), 8);
        int[] coins = {8, 6, 2};
        for (int parcel = 0; parcel < 3; parcel++) {
            check.all("PARCEL " + parcel, Check.parcel(hands, parcel), 0, coins[parcel], 0, 0, 0, 0, -1);
        }
        check.same("PARCEL 3", hands.parcel(3, 0), -1);
        for (int person = 0; person < 3; person++) {
            check.same("purse of " + person, hands.look(person, 1), 0);
            check.same("turn of " + person, hands.look(person, 6), 0);
        }
        check.same("coins", hands.coins(), 0);
        check.same("under way", hands.count(7), 0);
        check.same("at rest", hands.count(8), 0);
        check.same("rest", hands.rest(), 3);
    }

    /** Promise 3: of TEXTS ahead, right ones and those with a FAULT, nothing is left. */
    private static void nothingOfTextsAhead() {
        String sum = "0" + Check.times(29, "+1");
        String full = "person a 1 purse 5;person b 2 purse 6;hands a to b;hands b to a;parcel a 7 0;may m 1;law " + sum
                + ";";
        HalfHands hands = new HalfHands();
        for (int i = 0; i < 6; i++) {
            check.same("full", Check.tell(hands, full), 7);
            check.same("its law", hands.law(0, 0, 0, 0, 0), 29);
            check.same("with a FAULT", Check.tell(hands, full + "!"), -1);
            check.same("the law stays", hands.law(0, 0, 0, 0, 0), 29);
            check.same("bare", Check.tell(hands, "person a 3;person b 4;"), 2);
            check.all("a", Check.person(hands, 0), 3, 0, 0, -1, -1, -1, 0);
            check.all("b", Check.person(hands, 1), 4, 0, 0, -1, -1, -1, 0);
            int[] counts = {2, 0, 0, 0, 0, 0, 0, 0, 0, 0};
            for (int what = 0; what <= 9; what++) {
                check.same("count(" + what + ") of a bare text", hands.count(what), counts[what]);
            }
            check.same("no law", hands.law(0, 0, 0, 0, 0), Long.MIN_VALUE);
            check.same("no MAY", hands.named(1, Check.letters("m")), -1);
        }
    }

    /** Promise 3: "NONE with a FAULT, all stays". */
    private static void withAFault() {
        String[] faulty = {"!", "person a 1 purse 6;person q 3;law 1", "person a 100;", "person z 1;person z 1;",
            "hands a to b;", "law 1;may k 1;may l 1;person z 1;hands z to z;"};
        for (String text : faulty) {
            HalfHands hands = wellUsed();
            check.same("text of '" + text + "'", Check.tell(hands, text), -1);
            int[] counts = {2, 2, 1, 2, 2, 2, 1, 0, 2, 1};
            for (int what = 0; what <= 9; what++) {
                check.same("count(" + what + ") behind '" + text + "'", hands.count(what), counts[what]);
            }
            check.all("a", Check.person(hands, 0), 1, 5, 1, 1, -1, -1, 0);
            check.all("b", Check.person(hands, 1), 2, 11, 0, -1, -1, -1, 0);
            check.same("law", hands.law(1, 1, 1, 1, 1), 0);
            check.same("a name ahead", hands.named(1, Check.letters("m")), 0);
            check.same("no new name", hands.named(0, Check.letters("z")), -1);
            check.same("fits", hands.fits(), 0);
            check.same("a later known", hands.known(2), true);
            check.same("rest", hands.rest(), 0);
            check.same("hours", hands.hours(1), 3);
            check.same("the IMAGE", hands.again(), 2);
        }
    }

    /** Promise 3: "-2, and the TAPE stays". */
    private static void tapeStays() {
        HalfHands hands = new HalfHands();
        Check.feedAll(hands, "person a 1;law 1;" + Check.times(23, " "));
        for (int n : new int[] {-1, 41, Integer.MIN_VALUE, Integer.MAX_VALUE}) {
            check.same("text(" + n + ")", hands.text(n), -2);
        }
        check.same("its length", hands.feed(BLANKS, BLANKS, BLANKS, BLANKS, BLANKS), 60);
        check.same("its bytes", hands.text(60), 2);
        check.same("a person", hands.count(0), 1);
        HalfHands used = wellUsed();
        check.same("text(1)", used.text(1), -2);
        check.same("all else stays, too", used.count(0), 2);
        check.same("the IMAGE", used.again(), 2);
    }

    /** Promise 4: "Of the latest text() that was not -2, what 0: its FAULT (0), 1: its place (NONE without)." */
    private static void latestText() {
        HalfHands hands = new HalfHands();
        fault(hands, 0, -1);
        check.same("-2 at first", hands.text(1), -2);
        fault(hands, 0, -1);
        check.same("faulty", Check.tell(hands, "person a 100;"), -1);
        fault(hands, 2, 9);
        check.same("-2", hands.text(-1), -2);
        fault(hands, 2, 9);
        check.same("another one", Check.tell(hands, "!"), -1);
        fault(hands, 1, 0);
        check.same("right", Check.tell(hands, "person a 1;"), 1);
        fault(hands, 0, -1);
        check.same("-2", hands.text(1), -2);
        fault(hands, 0, -1);
        Check.tell(hands, "hands a to b;");
        fault(hands, 4, 6);
        check.same("an empty one is right", hands.text(0), 0);
        fault(hands, 0, -1);
        Check.tell(hands, "");
        fault(hands, 0, -1);
    }

    private static void fault(HalfHands hands, int kind, int place) {
        check.same("fault(0)", hands.fault(0), kind);
        check.same("fault(1)", hands.fault(1), place);
    }

    /** Promise 4: "NONE for another what." */
    private static void otherWhatOfFault() {
        HalfHands hands = new HalfHands();
        Check.tell(hands, "person a 100;");
        check.bounds("fault what", 0, 1, -1, hands::fault);
    }

    /** Promise 5: "by its letters, 5 bits each (.. 0 behind the last one); NONE: there is none such." */
    private static void noneSuch() {
        HalfHands hands = Check.told("person a 1;person aa 1;person zzzzzz 1;person ab 1;may zzzzzz 1;may b 1;");
        check.same("a", hands.named(0, 1 << 25), 0);
        check.same("aa", hands.named(0, 1 << 25 | 1 << 20), 1);
        check.same("zzzzzz", hands.named(0, Check.letters("zzzzzz")), 2);
        check.same("zzzzzz of MAY", hands.named(1, Check.letters("zzzzzz")), 0);
        check.same("ab", hands.named(0, 1 << 25 | 2 << 20), 3);
        check.same("b of MAY", hands.named(1, 2 << 25), 1);
        check.same("b is no person", hands.named(0, 2 << 25), -1);
        check.same("a is no MAY", hands.named(1, 1 << 25), -1);
        for (String none : new String[] {"aaa", "ac", "zzzzz", "zzzzzy", "b", "z", "yzzzzz"}) {
            check.same(none, hands.named(0, Check.letters(none)), -1);
        }
        check.same("nothing", hands.named(0, 0), -1);
        check.same("lowest", hands.named(0, 1), -1);
        check.same("not at the beginning", hands.named(0, 1 << 20), -1);
        check.same("one step up", hands.named(0, (1 << 25) + 1), -1);
        check.same("one step down", hands.named(0, (1 << 25) - 1), -1);
        check.same("a bit above six letters", hands.named(0, 1 << 25 | 1 << 30), -1);
        check.same("the highest bit", hands.named(0, 1 << 25 | 1 << 31), -1);
        check.same("all bits", hands.named(0, -1), -1);
        check.same("of no text", new HalfHands().named(0, 1 << 25), -1);
        check.same("of no text, nothing", new HalfHands().named(1, 0), -1);
        Check.tell(hands, "person b 1;");
        check.same("told ahead alone", hands.named(0, 1 << 25), -1);
        check.same("told now", hands.named(0, 2 << 25), 0);
        check.same("at an unused place", hands.named(0, 1 << 25 | 1 << 20), -1);
        HalfHands ten = Check.told(Check.people(10) + "may a 1;may b 1;may c 1;may d 1;");
        check.same("the first of ten", ten.named(0, Check.letters("a")), 0);
        check.same("the tenth", ten.named(0, Check.letters("j")), 9);
        check.same("an eleventh", ten.named(0, Check.letters("k")), -1);
        check.same("the fourth MAY", ten.named(1, Check.letters("d")), 3);
        check.same("a fifth", ten.named(1, Check.letters("e")), -1);
    }

    /** Promise 5: "a PERSON (what 0), MAY (1)". */
    private static void otherWhatOfNamed() {
        HalfHands hands = Check.told("person a 1;may a 1;");
        check.bounds("named what", 0, 1, -1, what -> hands.named(what, 1 << 25));
    }

    /** "An object is used for at most 512 calls after it has been made": the 512th is answered as the others are. */
    private static void fiveHundredAndTwelve() {
        HalfHands hands = new HalfHands();
        for (int i = 1; i <= 510; i++) {
            check.same("call " + i, hands.hours(i % 2), i - i / 2);
        }
        check.same("call 511", hands.feed(0x6c617720, 0x313b2020, BLANKS, BLANKS, BLANKS), 20);
        check.same("call 512", hands.text(20), 1);
    }
}
