/**
 * The edges of NOTES (part 4 of the Terms) and of promises 27 to 31; above each method is the sentence of the document
 * that it is for.
 */
public final class EdgeNotesTest {
    private static final Check check = new Check();
    private static final String THREE = "person a 1;person b 2;person c 3;";
    private static final long ROW = 0x210;

    public static void main(String[] args) {
        coinsOfANote();
        lowAndHigh();
        highNotBelowLow();
        fortyNotes();
        numberedFromNought();
        suchNotes();
        fortyStrikes();
        struckStrikes();
        chainOfStrikes();
        strikesOfOne();
        knownBounds();
        knownFirst();
        knownByAll();
        strikesBehindTheKnown();
        fitsLowToHigh();
        fitsBits();
        fitsOfNone();
        suchLaws();
        apartBounds();
        apartOfAlike();
        check.end();
    }

    /** Promise 27: "A NOTE (coins 0 .. 999999 ..". */
    private static void coinsOfANote() {
        HalfHands hands = Check.told(THREE);
        check.bounds("coins", 0, 999999, -1, coins -> hands.note(3, ROW, coins, 0, 999999));
        check.same("four are noted", hands.count(5), 4);
        check.same("so it is", hands.fits(), 1);
    }

    /** Promise 27: "low, high 0 .. 999999". */
    private static void lowAndHigh() {
        HalfHands hands = Check.told(THREE);
        check.bounds("low", 0, 999999, -1, low -> hands.note(3, ROW, 5, low, 999999));
        check.bounds("high", 0, 999999, -1, high -> hands.note(3, ROW, 5, 0, high));
        check.bounds("both", 0, 999999, -1, both -> hands.note(3, ROW, 5, both, both));
        check.same("twelve are noted", hands.count(5), 12);
        check.same("low -1, high 1000000", hands.note(3, ROW, 5, -1, 1000000), -1);
        check.same("low -1, high -1", hands.note(3, ROW, 5, -1, -1), -1);
        check.same("still twelve", hands.count(5), 12);
    }

    /** Promise 27: "high not below low". */
    private static void highNotBelowLow() {
        HalfHands hands = Check.told(THREE);
        for (int low : new int[] {1, 2, 500, 999998, 999999}) {
            check.same("one below", hands.note(3, ROW, 5, low, low - 1), -1);
            check.same("0", hands.note(3, ROW, 5, low, 0), -1);
            check.same("the same", hands.note(3, ROW, 5, low, low) >= 0, true);
            check.same("one above", hands.note(3, ROW, 5, low, low + 1) >= 0, low < 999999);
        }
    }

    /** Promise 27: "NONE: .. or there are 40." */
    private static void fortyNotes() {
        HalfHands hands = Check.told(THREE);
        for (int i = 0; i < 40; i++) {
            check.same("note", hands.note(3, ROW, 4, 2, 2), i);
        }
        check.same("a 41st", hands.note(3, ROW, 4, 2, 2), -1);
        check.same("a wrong 41st", hands.note(3, ROW, -1, 2, 2), -1);
        check.same("count", hands.count(5), 40);
        check.same("known by", hands.count(6), 40);
        check.same("fits", hands.fits(), 1);
        Check.tell(hands, THREE);
        check.same("anew", hands.note(3, ROW, 4, 2, 2), 0);
    }

    /** "NOTES, at most 40, numbered from 0 on": STRIKES among them; a refused one takes no number. */
    private static void numberedFromNought() {
        HalfHands hands = Check.told(THREE);
        check.same("a note", hands.note(3, ROW, 4, 2, 2), 0);
        check.same("a refused note", hands.note(3, ROW, 4, 2, 1), -1);
        check.same("a strike", hands.strike(0), 1);
        check.same("a refused strike", hands.strike(2), -1);
        check.same("a note", hands.note(3, ROW, 4, 2, 2), 2);
        check.same("a strike of the strike", hands.strike(1), 3);
        check.same("count", hands.count(5), 4);
    }

    /** Promise 28: "NONE: no such NOTE". */
    private static void suchNotes() {
        HalfHands hands = Check.told(THREE);
        check.same("of none", hands.strike(0), -1);
        check.same("of a new object", new HalfHands().strike(0), -1);
        for (int size = 0; size < 5; size++) {
            for (int none : new int[] {Integer.MIN_VALUE, -1, size, size + 1, 39, 40, Integer.MAX_VALUE}) {
                check.same("strike " + none + " of " + size, hands.strike(none), -1);
            }
            check.same("note", hands.note(3, ROW, 4, 2, 2), size);
        }
        check.same("the last one", hands.strike(4), 5);
        check.same("the first one", hands.strike(0), 6);
        check.same("itself", hands.strike(7), -1);
        check.same("the one ahead", hands.strike(6), 7);
    }

    /** Promise 28: "or there are 40." */
    private static void fortyStrikes() {
        HalfHands hands = Check.told(THREE);
        hands.note(3, ROW, 4, 9, 9);
        for (int i = 1; i < 40; i++) {
            check.same("strike " + i, hands.strike(0), i);
        }
        check.same("a 41st", hands.strike(0), -1);
        check.same("a 41st note", hands.note(3, ROW, 4, 2, 2), -1);
        check.same("struck", hands.fits(), 1);
        HalfHands notes = Check.told(THREE);
        for (int i = 0; i < 39; i++) {
            notes.note(3, ROW, 4, i == 38 ? 9 : 2, 9);
        }
        check.same("can't be", notes.fits(), 0);
        check.same("the 40th is a strike of the 39th", notes.strike(38), 39);
        check.same("it is struck", notes.fits(), 1);
    }

    /** "(a STRIKE may be STRUCK: then it doesn't count; asked from the last one on)". */
    private static void struckStrikes() {
        HalfHands hands = Check.told(THREE);
        hands.note(3, ROW, 4, 9, 9);
        check.same("not struck", hands.fits(), 0);
        hands.strike(0);
        check.same("struck", hands.fits(), 1);
        hands.strike(0);
        check.same("twice", hands.fits(), 1);
        hands.strike(1);
        check.same("one of both is struck", hands.fits(), 1);
        hands.strike(2);
        check.same("both are", hands.fits(), 0);
        hands.strike(4);
        check.same("but the second strike's is struck", hands.fits(), 1);
    }

    /** "asked from the last one on": each STRIKE strikes the one ahead, up to the 40th NOTE. */
    private static void chainOfStrikes() {
        HalfHands hands = Check.told(THREE);
        hands.note(3, ROW, 4, 9, 9);
        for (int i = 0; i < 39; i++) {
            hands.strike(i);
            check.same("behind strike " + i, hands.fits(), i % 2 == 0 ? 1 : 0);
        }
    }

    /** A STRIKE of one NOTE leaves those beside it. */
    private static void strikesOfOne() {
        for (int struck = 0; struck < 3; struck++) {
            HalfHands hands = Check.told(THREE + "may x coins=1;may y coins=3;may z coins=5;");
            // only by x nothing ARRIVES of 1, only by y 1 of 3, only by z 2 of 5: each NOTE leaves that one out
            hands.note(3, ROW, 1, 1, 1);
            hands.note(3, ROW, 3, 2, 2);
            hands.note(3, ROW, 5, 3, 3);
            check.same("all", hands.fits(), 8);
            hands.strike(struck);
            check.same("without " + struck, hands.fits(), 8 | 1 << struck);
        }
    }

    /** Promise 29: "(-1: by all ..): true; false: no such n." */
    private static void knownBounds() {
        HalfHands hands = Check.told(THREE);
        for (int size = 0; size <= 40; size++) {
            int[] wrong = {Integer.MIN_VALUE, -2, size + 1, Integer.MAX_VALUE};
            check.same("known(" + size + ")", hands.known(size), true);
            check.same("known(" + wrong[size % 4] + ")", hands.known(wrong[size % 4]), false);
            check.same("it stays", hands.count(6), size);
            check.same("one too many", hands.known(size + 1), false);
            check.same("known(0)", hands.known(0), true);
            check.same("by none", hands.count(6), 0);
            check.same("-2", hands.known(-2), false);
            check.same("known(-1)", hands.known(-1), true);
            check.same("by all", hands.count(6), size);
            hands.note(3, ROW, 4, 2, 2);
        }
        check.same("a new object", new HalfHands().known(0), true);
        check.same("a new object", new HalfHands().known(-1), true);
        check.same("a new object", new HalfHands().known(1), false);
    }

    /** "KNOWN by n ..: the first n". */
    private static void knownFirst() {
        HalfHands hands = Check.told(THREE + "may x coins=1;may y coins=3;may z coins=5;");
        hands.note(3, ROW, 1, 1, 1);
        hands.note(3, ROW, 3, 2, 2);
        hands.note(3, ROW, 5, 3, 3);
        int[] due = {15, 14, 12, 8};
        for (int n = 0; n <= 3; n++) {
            hands.known(n);
            check.same("by " + n, hands.fits(), due[n]);
            check.same("refused", hands.known(4), false);
            check.same("still by " + n, hands.fits(), due[n]);
        }
    }

    /** "(all at first)"; promise 29: "-1: by all, also those to come"; else those to come don't count. */
    private static void knownByAll() {
        HalfHands hands = Check.told(THREE);
        hands.note(3, ROW, 4, 2, 2);
        check.same("all at first", hands.count(6), 1);
        check.same("n as many as there are", hands.known(1), true);
        hands.note(3, ROW, 4, 9, 9);
        check.same("not those to come", hands.count(6), 1);
        check.same("fits", hands.fits(), 1);
        check.same("by all", hands.known(-1), true);
        check.same("fits", hands.fits(), 0);
        hands.strike(1);
        check.same("also those to come", hands.count(6), 3);
        check.same("fits", hands.fits(), 1);
    }

    /** "that aren't STRUCK by one of these": a STRIKE behind the first n doesn't count, nor one that it strikes. */
    private static void strikesBehindTheKnown() {
        HalfHands hands = Check.told(THREE);
        hands.note(3, ROW, 4, 9, 9);
        hands.strike(0);
        hands.strike(1);
        hands.strike(2);
        int[] due = {1, 0, 1, 0, 1};
        for (int n = 0; n <= 4; n++) {
            hands.known(n);
            check.same("by " + n, hands.fits(), due[n]);
        }
    }

    /** "what ARRIVED from low to high": both ends are in it. */
    private static void fitsLowToHigh() {
        int[][] spans = {{2, 2}, {0, 1}, {1, 2}, {2, 3}, {3, 4}, {1, 3}, {0, 999999}, {3, 999999}, {0, 2}, {2, 999999}};
        int[] due = {1, 0, 1, 1, 0, 1, 1, 0, 1, 1};
        for (int i = 0; i < spans.length; i++) {
            HalfHands hands = Check.told(THREE);
            hands.note(3, ROW, 4, spans[i][0], spans[i][1]);
            check.same("from " + spans[i][0] + " to " + spans[i][1], hands.fits(), due[i]);
        }
        HalfHands most = Check.told(THREE);
        most.note(2, ROW, 999999, 999999, 999999);
        check.same("999999", most.fits(), 1);
        most.note(2, ROW, 999999, 999998, 999998);
        check.same("999998", most.fits(), 0);
        HalfHands none = Check.told(THREE);
        none.note(3, ROW, 0, 0, 0);
        check.same("0", none.fits(), 1);
        none.note(3, ROW, 0, 1, 1);
        check.same("1", none.fits(), 0);
    }

    /** "FITS: MAY (bits; the bit behind all: the law as told)". */
    private static void fitsBits() {
        String[] mays = {"", "may p 1;", "may q 1;", "may r 1;", "may s 1;"};
        String text = THREE;
        for (int many = 0; many <= 4; many++) {
            text += mays[many];
            HalfHands hands = Check.told(text);
            check.same("all of " + many, hands.fits(), (2 << many) - 1);
            hands.note(3, ROW, 1, 1, 1);
            check.same("the law alone, behind " + many, hands.fits(), 1 << many);
            HalfHands told = Check.told(text + "law 1;");
            told.note(3, ROW, 1, 0, 0);
            check.same("all that stay, behind " + many, told.fits(), (2 << many) - 1);
        }
    }

    /** FITS without NOTES, TEXT, or any law that does. */
    private static void fitsOfNone() {
        check.same("of no text", new HalfHands().fits(), 1);
        check.same("of four MAY", Check.told("may a 1;may b 0;may c 1/0;may d coins;").fits(), 31);
        HalfHands hands = Check.told(THREE + "may x 1;");
        hands.note(3, ROW, 1, 9, 9);
        check.same("none", hands.fits(), 0);
        hands.known(0);
        check.same("KNOWN by none", hands.fits(), 3);
        HalfHands wrong = Check.told(THREE + "may x 1/0;may y 1;");
        wrong.note(3, ROW, 1, 1, 1);
        check.same("with an ERROR it goes on", wrong.fits(), 5);
    }

    /** Promise 31: "APART of MAY one and other (as many as there are: the law as told); .. NONE: no such ones." */
    private static void suchLaws() {
        String[] mays = {"", "may p 1;", "may q 1;", "may r 1;", "may s 1;"};
        String text = THREE;
        for (int many = 0; many <= 4; many++) {
            text += mays[many];
            HalfHands hands = Check.told(text);
            int laws = many;
            check.bounds("one of " + many, 0, many, -1, one -> hands.apart(3, ROW, one, laws));
            check.bounds("other of " + many, 0, many, -1, other -> hands.apart(3, ROW, laws, other));
            check.same("MAY 0 and the law", hands.apart(3, ROW, 0, many), many == 0 ? -2 : 1);
        }
        check.same("of no text", new HalfHands().apart(2, 0x10, 0, 0), -1);
    }

    private static int apart(int n, String laws) {
        return Check.told(Check.people(10) + laws).apart(n, 0x9876543210L, 0, 1);
    }

    /** "the least number of coins 1 .. 999"; promise 31: "-2: by none". */
    private static void apartBounds() {
        check.same("1", apart(3, "may x 1;may y 0;"), 1);
        check.same("2", apart(4, "may x 1;may y place=1;"), 2);
        check.same("3", apart(3, "may x coins>=3;may y 0;"), 3);
        check.same("997", apart(3, "may x coins>=997;may y 0;"), 997);
        check.same("998", apart(4, "may x place=1 or coins=499;may y place=1;"), 998);
        check.same("999", apart(3, "may x coins>=999;may y 0;"), 999);
        check.same("1000", apart(6, "may x place<4 or coins=125;may y place<4;"), -2);
        check.same("1001", apart(3, "may x coins>=1001;may y 0;"), -2);
        check.same("984", apart(6, "may x place<4 or coins=123;may y place<4;"), 984);
    }

    /** Promise 31: "-2: by none". */
    private static void apartOfAlike() {
        check.same("one law and the same", Check.told(THREE + "may x 1;").apart(3, ROW, 0, 0), -2);
        check.same("the law and itself", Check.told(THREE).apart(3, ROW, 0, 0), -2);
        check.same("no CARRIER", apart(2, "may x 1;may y 0;"), -2);
        check.same("eight of them", apart(10, "may x 1;may y 0;"), 1);
        check.same("an ERROR is as 0", apart(3, "may x 1/0;may y 0;"), -2);
        check.same("-1 is as 1", apart(3, "may x 0-1;may y 1;"), -2);
    }
}
