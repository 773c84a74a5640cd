import java.util.Random;

/** Texts and calls made up from seeds: the program answers as the plain ways of the Oracle do. */
public final class CompareTest {
    private static final Check check = new Check();

    /** Some of them are two or three of an object's 512, and the feeding of a text comes on top. */
    private static final int MOST_CALLS = 420;

    private final Random random;
    private final int seed;
    private final HalfHands hands;
    private Oracle oracle;
    private int people;
    private int mays;
    private final int mostCarriers;
    private String run;
    /** What is on the TAPE, and the FAULT of the latest text, as they are due. */
    private final StringBuilder tape = new StringBuilder();
    private int faultKind;
    private int faultPlace = -1;

    private CompareTest(int seed, HalfHands hands, String text, int mostCarriers) {
        random = new Random(seed);
        this.seed = seed;
        this.hands = hands;
        this.mostCarriers = mostCarriers;
        begin(text);
    }

    private void begin(String text) {
        oracle = new Oracle(text);
        people = oracle.count(0);
        mays = oracle.count(2);
        run = "seed " + seed + " '" + text + "': ";
    }

    public static void main(String[] args) {
        for (int seed = 0; seed < 20000; seed++) {
            compareFault(seed);
        }
        for (int seed = 0; seed < 700; seed++) {
            String text = new RandomText(new Random(seed)).right(seed % 11);
            CompareTest test = new CompareTest(seed, Check.told(text), text, 5);
            for (int i = 0; i < MOST_CALLS; i++) {
                test.call();
            }
        }
        for (int seed = 0; seed < 700; seed++) {
            new CompareTest(seed, new HalfHands(), "", 4).severalTexts();
        }
        for (int seed = 1000; seed < 1006; seed++) {
            String text = new RandomText(new Random(seed)).right(10);
            CompareTest test = new CompareTest(seed, Check.told(text), text, 8);
            for (int i = 0; i < 60; i++) {
                test.callOfRow();
            }
        }
        check.end();
    }

    private static void compareFault(int seed) {
        Random random = new Random(seed);
        RandomText maker = new RandomText(random);
        String text = maker.changed(maker.right(random.nextInt(5)));
        int kind = 0;
        int place = -1;
        int lines = -1;
        try {
            lines = new OracleText(text).lines;
        } catch (OracleText.Fault fault) {
            kind = fault.kind;
            place = fault.place;
        }
        HalfHands hands = new HalfHands();
        check.same("text of '" + text + "'", Check.tell(hands, text), lines);
        check.same("fault(0) of '" + text + "'", hands.fault(0), kind);
        check.same("fault(1) of '" + text + "'", hands.fault(1), place);
    }

    /** All the calls of one object: texts come one behind another, with and without faults, and calls between them. */
    private void severalTexts() {
        int fed = 0;
        for (int calls = 0; calls < MOST_CALLS; calls += fed + 1) {
            fed = 0;
            switch (random.nextInt(30)) {
                case 0: {
                    RandomText maker = new RandomText(random);
                    String text = maker.right(random.nextInt(4));
                    fed = feed(random.nextInt(3) == 0 ? maker.changed(text) : text);
                    tell(tape.length());
                    break;
                }
                case 1:
                    fed = feed(new RandomText(random).right(random.nextInt(3)));
                    break;
                case 2:
                    tell(pick(-1, tape.length() + 1));
                    break;
                case 3:
                    tell(tape.lastIndexOf(";") + 1);
                    break;
                case 4: {
                    int what = pick(-1, 2);
                    int due = what == 0 ? faultKind : what == 1 ? faultPlace : -1;
                    check.same(run + "fault " + what, hands.fault(what), due);
                    break;
                }
                case 5: {
                    int what = pick(-1, 2);
                    int letters = Check.letters(RandomText.name(pick(0, 10)));
                    check.same(run + "named " + what + " " + letters, hands.named(what, letters),
                            oracle.named(what, letters));
                    break;
                }
                default:
                    call();
                    break;
            }
        }
    }

    /** Feeds a text, as much of it as there is room for: how many calls that took. */
    private int feed(String text) {
        StringBuilder padded = new StringBuilder(text).append(" ".repeat((20 - text.length() % 20) % 20));
        for (int i = 0; i < padded.length(); i += 20) {
            boolean room = tape.length() + 20 <= 700;
            if (room) {
                tape.append(padded, i, i + 20);
            }
            check.same(run + "feed", Check.feed(hands, padded, i), room ? tape.length() : -1);
        }
        return padded.length() / 20;
    }

    private void tell(int n) {
        String told = run + "text " + n + " of '" + tape + "'";
        if (n < 0 || n > tape.length()) {
            check.same(told, hands.text(n), -2);
            return;
        }
        String text = tape.substring(0, n);
        tape.setLength(0);
        int lines = -1;
        faultKind = 0;
        faultPlace = -1;
        try {
            lines = new OracleText(text).lines;
            begin(text);
        } catch (OracleText.Fault fault) {
            faultKind = fault.kind;
            faultPlace = fault.place;
        }
        check.same(told, hands.text(n), lines);
    }

    private int pick(int low, int high) {
        return low + random.nextInt(high - low + 1);
    }

    private int person() {
        return pick(random.nextInt(20) == 0 ? -1 : 0, random.nextInt(20) == 0 ? people : Math.max(0, people - 1));
    }

    private int length() {
        return random.nextInt(40) == 0 ? pick(0, 11) : pick(2, Math.max(2, Math.min(people, mostCarriers + 2)));
    }

    private long row(int n) {
        int[] row = new int[n];
        boolean[] taken = new boolean[16];
        for (int i = 0; i < n; i++) {
            row[i] = pick(0, Math.max(0, people - 1));
            for (int j = 0; j < 16 && taken[row[i]]; j++) {
                row[i] = (row[i] + 1) % Math.max(1, people);
            }
            taken[row[i]] = true;
        }
        long code = Check.row(row);
        switch (random.nextInt(30)) {
            case 0: return code | 1L << random.nextInt(64);
            case 1: return code | random.nextLong() << 4 * n;
            case 2: return code | -1L << 4 * n;
            default: return code;
        }
    }

    private int coins() {
        switch (random.nextInt(10)) {
            case 0: return pick(-1, 3);
            case 1: return pick(999990, 1000000);
            case 2: return pick(0, 999999);
            default: return pick(0, 700);
        }
    }

    private void call() {
        switch (random.nextInt(14)) {
            case 0: {
                int n = random.nextInt(30) == 0 ? pick(-1, 301) : pick(0, 8);
                check.same(run + "hours(" + n + ")", hands.hours(n), oracle.hours(n));
                break;
            }
            case 1: {
                int person = person();
                int coins = random.nextInt(10) == 0 ? pick(-1, 100001) : pick(0, 300);
                check.same(run + "send", hands.send(person, coins), oracle.send(person, coins));
                break;
            }
            case 2: {
                if (people > 0) {
                    int person = pick(0, people - 1);
                    int what = pick(0, 6);
                    check.same(run + "look", hands.look(person, what), oracle.look(person, what));
                }
                break;
            }
            case 3: {
                int parcel = pick(-1, 30);
                int what = pick(-1, 7);
                check.same(run + "parcel", hands.parcel(parcel, what), oracle.parcel(parcel, what));
                break;
            }
            case 4:
                check.same(run + "coins", hands.coins(), oracle.coins());
                check.same(run + "rest", hands.rest(), oracle.rest());
                break;
            case 5: {
                int what = pick(-1, 10);
                check.same(run + "count " + what, hands.count(what), oracle.count(what));
                break;
            }
            case 6: {
                int what = pick(-1, 6);
                int i = what == 5 ? pick(-1, 12) : random.nextBoolean() ? 0 : person();
                int j = person();
                check.same(run + "tried " + what, hands.tried(what, i, j), oracle.tried(what, i, j));
                break;
            }
            case 7:
                if (random.nextInt(4) == 0) {
                    check.same(run + "keep", hands.keep(), oracle.keep());
                } else if (random.nextInt(3) == 0) {
                    check.same(run + "again", hands.again(), oracle.again());
                }
                break;
            case 8:
            case 9:
                callOfNotes();
                break;
            case 10: {
                int age = pick(random.nextInt(20) == 0 ? -1 : 0, random.nextInt(20) == 0 ? 100 : 99);
                int next = pick(0, random.nextInt(20) == 0 ? 100 : 99);
                int coins = pick(random.nextInt(20) == 0 ? -1 : 0, random.nextInt(20) == 0 ? 10000 : 9999);
                int place = pick(0, random.nextInt(20) == 0 ? 10000 : 30);
                int hour = pick(0, random.nextInt(20) == 0 ? 10000 : 5);
                check.same(run + "law", hands.law(coins, age, next, place, hour),
                        oracle.law(coins, age, next, place, hour));
                break;
            }
            default:
                callOfRow();
                break;
        }
    }

    private void callOfNotes() {
        int n = length();
        long row = row(n);
        switch (random.nextInt(5)) {
            case 0: {
                int coins = coins();
                int arrived = Math.max(0, oracle.arrives(n, row, coins));
                int low = Math.max(random.nextInt(20) == 0 ? -1 : 0, arrived - pick(-1, 1));
                int high = arrived + pick(0, 1);
                check.same(run + "note", hands.note(n, row, coins, low, high), oracle.note(n, row, coins, low, high));
                break;
            }
            case 1: {
                int note = pick(-1, oracle.count(5));
                check.same(run + "strike", hands.strike(note), oracle.strike(note));
                break;
            }
            case 2: {
                int size = random.nextInt(3) == 0 ? -1 : pick(-2, oracle.count(5) + 1);
                check.same(run + "known", hands.known(size), oracle.known(size));
                break;
            }
            case 3: {
                int one = pick(random.nextInt(20) == 0 ? -1 : 0, mays);
                int other = pick(0, random.nextInt(20) == 0 ? mays + 1 : mays);
                check.same(run + "apart", hands.apart(n, row, one, other), oracle.apart(n, row, one, other));
                break;
            }
            default:
                check.same(run + "fits", hands.fits(), oracle.fits());
                break;
        }
    }

    private void callOfRow() {
        int n = length();
        long row = row(n);
        int coins = coins();
        int carriers = Math.max(0, Math.min(8, n - 2));
        int t = Math.max(-1, (coins >> carriers) + pick(random.nextInt(10) == 0 ? -1 : 0, 1));
        int what = pick(random.nextInt(20) == 0 ? -1 : 0, random.nextInt(20) == 0 ? 2 : 1);
        int k = pick(0, n);
        String call = run + n + " " + Long.toHexString(row) + " " + coins + ", t " + t + " what " + what + " k " + k;
        switch (random.nextInt(14)) {
            case 0:
                check.same(call + " arrives", hands.arrives(n, row, coins), oracle.arrives(n, row, coins));
                break;
            case 1:
                check.same(call + " keeps", hands.keeps(n, row, coins, k), oracle.keeps(n, row, coins, k));
                break;
            case 2:
                check.same(call + " back", hands.back(n, row, t, what + 1), oracle.back(n, row, t, what + 1));
                check.same(call + " back 0", hands.back(n, row, t, 0), oracle.back(n, row, t, 0));
                check.same(call + " back 3", hands.back(n, row, t, 3), oracle.back(n, row, t, 3));
                break;
            case 3:
                check.same(call + " span", hands.span(n, row, t, k - 1, what), oracle.span(n, row, t, k - 1, what));
                break;
            case 4:
                check.same(call + " best", hands.best(n, row, coins, what), oracle.best(n, row, coins, what, false));
                break;
            case 5:
                check.same(call + " order", hands.order(n, row, coins, what), oracle.best(n, row, coins, what, true));
                break;
            case 6:
                check.same(call + " just", hands.just(n, row, coins, t), oracle.just(n, row, coins, t, false));
                break;
            case 7:
                check.same(call + " first", hands.first(n, row, coins, t), oracle.just(n, row, coins, t, true));
                break;
            case 8:
            case 9: {
                int person = random.nextInt(5) == 0 || n < 3 ? person() : (int) (row >> 4 * pick(1, n - 2) & 15);
                int which = pick(what, what + 2);
                check.same(call + " gains " + person + " " + which, hands.gains(n, row, coins, person, which),
                        oracle.gains(n, row, coins, person, which));
                break;
            }
            case 10:
                check.same(call + " changes", hands.changes(n, row, coins, t), oracle.changes(n, row, coins, t, false));
                break;
            case 11:
                check.same(call + " changed", hands.changed(n, row, coins, t), oracle.changes(n, row, coins, t, true));
                break;
            case 12:
                check.same(call + " worth", hands.worth(n, row, coins, k), oracle.worth(n, row, coins, k));
                break;
            default: {
                int most = mostCarriers > 5 ? 6 : pick(0, 51);
                check.same(call + " serves", hands.serves(n, row, most), oracle.serves(n, row, most));
                break;
            }
        }
    }
}
