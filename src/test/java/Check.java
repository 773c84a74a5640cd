import java.util.NoSuchElementException;

/** What all tests share: told texts, compared answers, and the end of a test. */
final class Check {
    /** What look() answers here when it throws. */
    static final int OUT_OF_BOUNDS = -101;
    static final int NO_SUCH = -102;
    private static final int OTHERWISE = -103;

    /** A call with one number of its arguments left open. */
    interface Asked {
        long with(int number);
    }

    private int wrong;
    private int asked;

    /** Feeds a text and tells it. */
    static int tell(HalfHands hands, String text) {
        feedAll(hands, text);
        return hands.text(text.length());
    }

    static void feedAll(HalfHands hands, String text) {
        StringBuilder padded = new StringBuilder(text);
        while (padded.length() % 20 != 0) {
            padded.append(' ');
        }
        for (int i = 0; i < padded.length(); i += 20) {
            feed(hands, padded, i);
        }
    }

    /** Feeds the twenty bytes of a text from a place on. */
    static int feed(HalfHands hands, CharSequence text, int at) {
        return hands.feed(four(text, at), four(text, at + 4), four(text, at + 8), four(text, at + 12),
                four(text, at + 16));
    }

    private static int four(CharSequence text, int at) {
        int number = 0;
        for (int i = at; i < at + 4; i++) {
            number = number << 8 | text.charAt(i);
        }
        return number;
    }

    static HalfHands told(String text) {
        HalfHands hands = new HalfHands();
        if (tell(hands, text) < 0) {
            throw new IllegalStateException("fault " + hands.fault(0) + " at " + hands.fault(1) + " of " + text);
        }
        return hands;
    }

    /** A name as named() takes it. */
    static int letters(String name) {
        int code = 0;
        for (int i = 0; i < 6; i++) {
            code = code << 5 | (i < name.length() ? name.charAt(i) - 'a' + 1 : 0);
        }
        return code;
    }

    /** A ROW of people. */
    static long row(int... people) {
        long code = 0;
        for (int i = 0; i < people.length; i++) {
            code |= (long) people[i] << 4 * i;
        }
        return code;
    }

    void same(String what, long got, long due) {
        asked++;
        if (got != due) {
            wrong++;
            if (wrong <= 40) {
                System.out.println(what + " answered " + got + ", due is " + due);
            }
        }
    }

    void same(String what, boolean got, boolean due) {
        same(what, got ? 1 : 0, due ? 1 : 0);
    }

    /** Each of the answers of one row of calls. */
    void all(String what, long[] got, long... due) {
        same(what + ": how many", got.length, due.length);
        for (int i = 0; i < Math.min(got.length, due.length); i++) {
            same(what + " [" + i + "]", got[i], due[i]);
        }
    }

    /**
     * A number that may be low .. high: refused one step below and above, and far from it; not refused at the
     * ends and one step within them.
     */
    void bounds(String what, int low, int high, long refused, Asked call) {
        for (int number : new int[] {Integer.MIN_VALUE, low - 1, high + 1, Integer.MAX_VALUE}) {
            same(what + " " + number, call.with(number), refused);
        }
        for (int number : new int[] {low, low + 1, high - 1, high}) {
            if (number >= low && number <= high) {
                same(what + " " + number + " is refused", call.with(number) == refused, false);
            }
        }
    }

    /** look() with numbers for its exceptions; one that the machine throws is neither of them. */
    static int look(HalfHands hands, int person, int what) {
        try {
            return hands.look(person, what);
        } catch (RuntimeException e) {
            return e.getClass() == IndexOutOfBoundsException.class ? OUT_OF_BOUNDS
                    : e.getClass() == NoSuchElementException.class ? NO_SUCH : OTHERWISE;
        }
    }

    /** All of a PERSON, 0 to 6. */
    static long[] person(HalfHands hands, int person) {
        long[] all = new long[7];
        for (int what = 0; what < 7; what++) {
            all[what] = look(hands, person, what);
        }
        return all;
    }

    /** All of a PARCEL, 0 to 6. */
    static long[] parcel(HalfHands hands, int parcel) {
        long[] all = new long[7];
        for (int what = 0; what < 7; what++) {
            all[what] = hands.parcel(parcel, what);
        }
        return all;
    }

    /** A text over and over. */
    static String times(int n, String text) {
        StringBuilder all = new StringBuilder();
        for (int i = 0; i < n; i++) {
            all.append(text);
        }
        return all.toString();
    }

    /** The first n PEOPLE a, b, .. of one age each. */
    static String people(int n) {
        StringBuilder text = new StringBuilder();
        for (int i = 0; i < n; i++) {
            text.append("person ").append((char) ('a' + i)).append(' ').append(10 + i).append(';');
        }
        return text.toString();
    }

    /** A text that has a FAULT. */
    void faulty(String text, int kind, int place) {
        HalfHands hands = new HalfHands();
        same("text of '" + text + "'", tell(hands, text), -1);
        same("fault(0) of '" + text + "'", hands.fault(0), kind);
        same("fault(1) of '" + text + "'", hands.fault(1), place);
    }

    /** A text that has a FAULT at the place that is marked by '^'. */
    void marked(int kind, String text) {
        faulty(text.replace("^", ""), kind, text.indexOf('^'));
    }

    /** A text that has none. */
    void faultless(String text, int lines) {
        HalfHands hands = new HalfHands();
        same("text of '" + text + "'", tell(hands, text), lines);
        same("fault(0) of '" + text + "'", hands.fault(0), 0);
        same("fault(1) of '" + text + "'", hands.fault(1), -1);
    }

    void end() {
        System.out.println(asked + " answers looked at, " + wrong + " wrong");
        if (wrong > 0) {
            System.exit(1);
        }
    }
}
