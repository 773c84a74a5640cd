import java.util.Arrays;
import java.util.NoSuchElementException;

/** Parcels of coins that are halved at each hand. The words in capitals are those of the document. */
public final class HalfHands {
    public static final int NONE = -1;

    /** The answer of calls that were rightly asked, but for which there is nothing. */
    private static final int LACKING = -2;

    private static final int TAPE_BYTES = 700;
    private static final int FED_BYTES = 20;
    private static final int MOST_PEOPLE = 10;
    private static final int MOST_AGE = 99;
    private static final int MOST_PURSE = 99999;
    private static final int MOST_WAYS = 3;
    private static final int TOLD_PARCELS = 12;
    private static final int MOST_PARCELS = 30;
    private static final int MOST_COINS = 99999;
    private static final int MOST_DUE = 999;
    private static final int MOST_MAY = 4;
    private static final int MOST_KNOTS = 64;
    private static final int MOST_OPEN = 8;
    private static final int MOST_NUMBER = 9999;
    private static final int MOST_HANDS = 100;
    private static final int HOURS_AT_ONCE = 300;
    private static final int LAST_HOUR = 3000;
    private static final int ROW_COINS = 999999;
    private static final int BACK_COINS = 99999;
    private static final int MOST_CARRIERS = 8;
    private static final int SERVED_COINS = 50;
    private static final int APART_COINS = 999;
    private static final int MOST_NOTES = 40;

    /** Where the law as told stands among the laws, behind all MAY. */
    private static final int LAW = MOST_MAY;

    /** What is TRIED. */
    private static final int AS_TOLD = -1;
    private static final int HANDS_TO_NOBODY = 0;
    private static final int ALL_NEWBORN = 1;
    private static final int FIRST_WAY_ALONE = 2;
    private static final int KEEPS_ODD_ONES = 3;
    private static final int NO_ODD_ONE_KEPT = 4;
    private static final int PARCEL_NOT_SENT = 5;

    private final int[] tape = new int[TAPE_BYTES];
    private int tapeLength;
    private Telling told = new Telling();
    /** A TEXT is read into this one, so that all stays with a FAULT. */
    private Telling spare = new Telling();
    private final Reader reader = new Reader(tape, spare);
    private int faultKind;
    private int faultPlace = NONE;
    private final Journey run = new Journey(told);
    private final Journey image = new Journey(told);
    private boolean imaged;
    /** Goes on, or goes from HOUR 0 on, in place of the run. */
    private final Journey trial = new Journey(told);
    /** The ROW that the latest call told. */
    private final Row chain = new Row();
    private final Orders orders = new Orders(chain, told);
    private final Notes notes = new Notes();

    public HalfHands() {
    }

    public int feed(int a, int b, int c, int d, int e) {
        if (tapeLength + FED_BYTES > TAPE_BYTES) {
            return NONE;
        }
        append(a);
        append(b);
        append(c);
        append(d);
        append(e);
        return tapeLength;
    }

    private void append(int number) {
        for (int shift = 24; shift >= 0 && tapeLength < TAPE_BYTES; shift -= 8) {
            tape[tapeLength] = number >>> shift & 255;
            tapeLength++;
        }
    }

    public int text(int n) {
        if (n < 0 || n > tapeLength) {
            return LACKING;
        }
        tapeLength = 0;
        reader.begin(n, spare);
        int lines = 0;
        for (int i = 0; i < n && reader.goesOn(); i++) {
            reader.readLine();
            lines++;
        }
        faultKind = reader.fault;
        faultPlace = reader.faultPlace;
        if (faultKind != 0) {
            return NONE;
        }
        Telling old = told;
        told = spare;
        spare = old;
        run.begin(told);
        notes.clear();
        imaged = false;
        return lines;
    }

    public int fault(int what) {
        if (what == 0) {
            return faultKind;
        }
        return what == 1 ? faultPlace : NONE;
    }

    public int named(int what, int letters) {
        if (what == 0) {
            return told.personNamed(letters);
        }
        return what == 1 ? told.mayNamed(letters) : NONE;
    }

    public int look(int person, int what) throws IndexOutOfBoundsException, NoSuchElementException {
        if (!told.isPerson(person)) {
            throw new IndexOutOfBoundsException();
        }
        switch (what) {
            case 0:
                return told.ages[person];
            case 1:
                return run.purses[person];
            case 2:
                return told.ways[person];
            case 3:
            case 4:
            case 5:
                return told.heir(person, what - 3);
            case 6:
                return run.turns[person];
            default:
                throw new NoSuchElementException();
        }
    }

    public int hours(int n) {
        if (!within(n, 0, HOURS_AT_ONCE) || run.hour + n > LAST_HOUR) {
            return NONE;
        }
        run.passTo(run.hour + n);
        return run.hour;
    }

    public int send(int person, int coins) {
        if (!told.isPerson(person) || !within(coins, 1, MOST_COINS) || run.parcels >= MOST_PARCELS) {
            return NONE;
        }
        return run.add(person, coins, run.hour);
    }

    public int parcel(int parcel, int what) {
        if (!run.isParcel(parcel)) {
            return NONE;
        }
        switch (what) {
            case 0:
                return run.from[parcel];
            case 1:
                return run.wholes[parcel];
            case 2:
                return run.due[parcel];
            case 3:
                return run.states[parcel];
            case 4:
                return run.left[parcel];
            case 5:
                return run.hands[parcel];
            case 6:
                return run.to[parcel];
            default:
                return NONE;
        }
    }

    public long coins() {
        return run.allCoins();
    }

    public int rest() {
        trial.copyFrom(run);
        return trial.hoursTillRest();
    }

    public int arrives(int n, long row, int coins) {
        if (!isSent(n, row, coins)) {
            return NONE;
        }
        return chain.arriving(told, LAW, coins);
    }

    public int keeps(int n, long row, int coins, int k) {
        if (!isSent(n, row, coins) || !within(k, 1, chain.carriers())) {
            return NONE;
        }
        return chain.keptAt(told, coins, k);
    }

    public int back(int n, long row, int t, int what) {
        if (!isRow(n, row) || !within(t, 0, BACK_COINS)) {
            return NONE;
        }
        int least = endOfBack(t, 0);
        int greatest = endOfBack(t, 1);
        switch (what) {
            case 0:
                return least == NONE ? 0 : greatest - least + 1;
            case 1:
                return least;
            case 2:
                return greatest;
            case 3:
                return least == NONE ? 0 : 1;
            default:
                return NONE;
        }
    }

    public int span(int n, long row, int t, int k, int what) {
        if (!isRow(n, row) || !within(t, 0, BACK_COINS) || k != 0 || !within(what, 0, 1)) {
            return NONE;
        }
        return endOfBack(t, what);
    }

    /**
     * The least (0) or the greatest (1) number that ARRIVES as t; NONE: there is none. Of more coins never fewer
     * ARRIVE, as 2v hands on v, and 2v and 1 hands on v or v and 1: so BACK is one SPAN.
     */
    private int endOfBack(int t, int which) {
        int least = chain.leastBringing(told, t);
        if (least > ROW_COINS) {
            return NONE;
        }
        return which == 0 ? least : Math.min(chain.leastBringing(told, t + 1) - 1, ROW_COINS);
    }

    public int best(int n, long row, int coins, int what) {
        if (!isSent(n, row, coins) || !within(what, 0, 1)) {
            return NONE;
        }
        orders.take(told, coins);
        return what == 0 ? orders.mostArriving() : orders.leastArriving();
    }

    public long order(int n, long row, int coins, int what) {
        if (!isSent(n, row, coins) || !within(what, 0, 1)) {
            return NONE;
        }
        orders.take(told, coins);
        return orders.firstBringing(what == 0 ? orders.mostArriving() : orders.leastArriving());
    }

    public int just(int n, long row, int coins, int t) {
        if (!isSent(n, row, coins) || !within(t, 0, ROW_COINS)) {
            return NONE;
        }
        orders.take(told, coins);
        return orders.howManyBring(t);
    }

    public long first(int n, long row, int coins, int t) {
        if (!isSent(n, row, coins) || !within(t, 0, ROW_COINS)) {
            return NONE;
        }
        orders.take(told, coins);
        return orders.firstBringing(t);
    }

    public int bound(int n, int coins, int what) {
        if (!within(n, 0, MOST_CARRIERS) || !within(coins, 0, ROW_COINS) || !within(what, 0, 1)) {
            return NONE;
        }
        return what == 0 ? ceiling(coins, n) : coins >> n;
    }

    public int gains(int n, long row, int coins, int person, int what) {
        if (!isSent(n, row, coins) || !chain.isCarrier(person) || !within(what, 0, 3)) {
            return NONE;
        }
        orders.take(told, coins);
        boolean most = what < 2;
        return what == 0 || what == 2 ? orders.gain(person, most) : orders.gainPlace(person, most);
    }

    public int changes(int n, long row, int coins, int t) {
        if (!isSent(n, row, coins) || !within(t, 0, ROW_COINS)) {
            return NONE;
        }
        orders.take(told, coins);
        return orders.fewestSwaps(t);
    }

    public long changed(int n, long row, int coins, int t) {
        if (!isSent(n, row, coins) || !within(t, 0, ROW_COINS)) {
            return NONE;
        }
        orders.take(told, coins);
        return orders.nearestBringing(t);
    }

    public int worth(int n, long row, int coins, int k) {
        if (!isSent(n, row, coins) || !within(k, 1, chain.carriers() - 1)) {
            return Integer.MIN_VALUE;
        }
        int before = chain.arriving(told, LAW, coins);
        chain.swapAt(k);
        return chain.arriving(told, LAW, coins) - before;
    }

    public int serves(int n, long row, int most) {
        if (!isRow(n, row) || !within(most, 1, SERVED_COINS)) {
            return NONE;
        }
        for (int coins = 1; coins <= most; coins++) {
            if (isOutdone(coins)) {
                return coins;
            }
        }
        return 0;
    }

    /** Whether another ORDER of the ROW brings more of so many coins. */
    private boolean isOutdone(int coins) {
        int own = chain.arriving(told, LAW, coins);
        if (own == ceiling(coins, chain.carriers())) {
            return false;
        }
        orders.take(told, coins);
        return own < orders.mostArriving();
    }

    public long law(int coins, int age, int next, int place, int hour) {
        boolean such = within(coins, 0, MOST_NUMBER) && within(age, 0, MOST_AGE) && within(next, 0, MOST_AGE)
                && within(place, 0, MOST_NUMBER) && within(hour, 0, MOST_NUMBER);
        if (!such || !told.laws.toldLaw) {
            return Laws.ERROR;
        }
        return told.laws.value(LAW, coins, age, next, place, hour);
    }

    public int note(int n, long row, int coins, int low, int high) {
        if (!isSent(n, row, coins) || !within(low, 0, high) || !within(high, low, ROW_COINS)) {
            return NONE;
        }
        return notes.add(n, row, coins, low, high);
    }

    public int strike(int note) {
        return within(note, 0, notes.size - 1) ? notes.addStrike(note) : NONE;
    }

    public boolean known(int n) {
        if (!within(n, NONE, notes.size)) {
            return false;
        }
        notes.knownBy = n;
        return true;
    }

    public int fits() {
        notes.markStruck();
        int bits = 0;
        for (int number = 0; number <= told.mays; number++) {
            if (agrees(lawNumbered(number))) {
                bits |= 1 << number;
            }
        }
        return bits;
    }

    /** Whether all KNOWN NOTES are so by a law. */
    private boolean agrees(int law) {
        for (int note = 0; note < notes.size; note++) {
            if (notes.holds(note) && isRow(notes.lengths[note], notes.rows[note])
                    && !notes.allows(note, chain.arriving(told, law, notes.coins[note]))) {
                return false;
            }
        }
        return true;
    }

    /** The law as told has the number behind all MAY. */
    private int lawNumbered(int number) {
        return number == told.mays ? LAW : number;
    }

    public int apart(int n, long row, int one, int other) {
        if (!isRow(n, row) || !within(one, 0, told.mays) || !within(other, 0, told.mays)) {
            return NONE;
        }
        for (int coins = 1; coins <= APART_COINS; coins++) {
            int byOne = chain.arriving(told, lawNumbered(one), coins);
            if (byOne != chain.arriving(told, lawNumbered(other), coins)) {
                return coins;
            }
        }
        return LACKING;
    }

    public int tried(int what, int i, int j) {
        if (!isTrial(what, i) || !told.isPerson(j)) {
            return NONE;
        }
        trial.beginLike(run, what, i);
        trial.passTo(run.hour);
        return trial.purses[j];
    }

    private boolean isTrial(int what, int i) {
        switch (what) {
            case HANDS_TO_NOBODY:
            case KEEPS_ODD_ONES:
                return told.isPerson(i);
            case ALL_NEWBORN:
            case FIRST_WAY_ALONE:
            case NO_ODD_ONE_KEPT:
                return i == 0;
            case PARCEL_NOT_SENT:
                return run.isParcel(i);
            default:
                return false;
        }
    }

    public int keep() {
        image.copyFrom(run);
        imaged = true;
        return run.hour;
    }

    public int again() {
        if (!imaged) {
            return NONE;
        }
        run.copyFrom(image);
        return run.hour;
    }

    public int count(int what) {
        switch (what) {
            case 0:
                return told.people;
            case 1:
                return run.parcels;
            case 2:
                return told.mays;
            case 3:
                return told.laws.knots;
            case 4:
                return run.hour;
            case 5:
                return notes.size;
            case 6:
                return notes.knownSize();
            case 7:
                return run.inState(Journey.UNDER_WAY);
            case 8:
                return run.inState(Journey.AT_REST);
            case 9:
                return told.parcels;
            default:
                return NONE;
        }
    }

    /** Takes a ROW, if it is one. */
    private boolean isRow(int n, long code) {
        return chain.take(n, code, told.people);
    }

    /** Takes a ROW that is sent coins, if it is one and may be sent so many. */
    private boolean isSent(int n, long code, int coins) {
        return isRow(n, code) && within(coins, 0, ROW_COINS);
    }

    private static boolean within(int number, int low, int high) {
        return number >= low && number <= high;
    }

    /** Coins halved so many times, each odd one going on. */
    private static int ceiling(int coins, int halvings) {
        return coins + (1 << halvings) - 1 >> halvings;
    }

    /** What a TEXT tells. */
    private static final class Telling {
        int people;
        final int[] personNames = new int[MOST_PEOPLE];
        final int[] ages = new int[MOST_PEOPLE];
        final int[] purses = new int[MOST_PEOPLE];
        /** To how many each hands. */
        final int[] ways = new int[MOST_PEOPLE];
        final int[] heirs = new int[MOST_PEOPLE * MOST_WAYS];
        int parcels;
        final int[] from = new int[TOLD_PARCELS];
        final int[] coins = new int[TOLD_PARCELS];
        final int[] due = new int[TOLD_PARCELS];
        int mays;
        final int[] mayNames = new int[MOST_MAY];
        final Laws laws = new Laws();

        void clear() {
            people = 0;
            parcels = 0;
            mays = 0;
            laws.clear();
        }

        boolean isPerson(int person) {
            return within(person, 0, people - 1);
        }

        int personNamed(int letters) {
            return placeOf(letters, personNames, people);
        }

        int mayNamed(int letters) {
            return placeOf(letters, mayNames, mays);
        }

        private static int placeOf(int letters, int[] names, int size) {
            for (int i = 0; i < size && i < names.length; i++) {
                if (names[i] == letters) {
                    return i;
                }
            }
            return NONE;
        }

        void addPerson(int letters, int age) {
            if (people < MOST_PEOPLE) {
                personNames[people] = letters;
                ages[people] = age;
                purses[people] = 0;
                ways[people] = 0;
                people++;
            }
        }

        void addHeir(int person, int heir) {
            if (ways[person] < MOST_WAYS) {
                heirs[person * MOST_WAYS + ways[person]] = heir;
                ways[person]++;
            }
        }

        void addParcel(int person, int whole, int hour) {
            if (parcels < TOLD_PARCELS) {
                from[parcels] = person;
                coins[parcels] = whole;
                due[parcels] = hour;
                parcels++;
            }
        }

        void addMay(int letters) {
            if (mays < MOST_MAY) {
                mayNames[mays] = letters;
                mays++;
            }
        }

        /** To whom a PERSON hands by one of the ways. */
        int heir(int person, int way) {
            return within(way, 0, ways[person] - 1) ? heirs[person * MOST_WAYS + way] : NONE;
        }

        boolean handsTo(int person, int heir) {
            for (int way = 0; way < ways[person]; way++) {
                if (heir(person, way) == heir) {
                    return true;
                }
            }
            return false;
        }
    }

    /** The E of the law and of all MAY, each with its KNOTS behind those that they join. */
    private static final class Laws {
        static final long ERROR = Long.MIN_VALUE;
        private static final long MOST_VALUE = 1000000000000L;
        private static final int NAMES = 6;

        int knots;
        boolean toldLaw;
        private int written;
        private final int[] kinds = new int[MOST_KNOTS];
        private final int[] numbers = new int[MOST_KNOTS];
        private final int[] starts = new int[MOST_MAY + 1];
        private final int[] ends = new int[MOST_MAY + 1];
        private final int[] names = new int[NAMES];
        private final long[] stack = new long[MOST_KNOTS];

        void clear() {
            knots = 0;
            written = 0;
            toldLaw = false;
        }

        void open(int law) {
            starts[law] = written;
        }

        void close(int law) {
            ends[law] = written;
        }

        void write(int kind, int number) {
            if (written < MOST_KNOTS) {
                kinds[written] = kind;
                numbers[written] = number;
                written++;
            }
        }

        /** Whether the odd one stays by a law. */
        boolean oddStays(int law, int coins, int age, int next, int place, int hour) {
            if (law == LAW && !toldLaw) {
                return age > next;
            }
            long value = value(law, coins, age, next, place, hour);
            return value != 0 && value != ERROR;
        }

        /** What he keeps who gets coins to hand on. */
        int share(int law, int coins, int age, int next, int place, int hour) {
            int half = coins / 2;
            return coins % 2 != 0 && oddStays(law, coins, age, next, place, hour) ? half + 1 : half;
        }

        long value(int law, int coins, int age, int next, int place, int hour) {
            names[Tokens.COINS] = coins;
            names[Tokens.AGE] = age;
            names[Tokens.NEXT] = next;
            names[Tokens.ELDER] = age > next ? 1 : 0;
            names[Tokens.PLACE] = place;
            names[Tokens.HOUR] = hour;
            int size = 0;
            for (int knot = starts[law]; knot < ends[law]; knot++) {
                int kind = kinds[knot];
                if (kind <= Tokens.HOUR && size < MOST_KNOTS) {
                    stack[size] = names[kind];
                    size++;
                } else if (kind == Tokens.NUMBER && size < MOST_KNOTS) {
                    stack[size] = numbers[knot];
                    size++;
                } else if (kind == Tokens.NOT && size > 0) {
                    stack[size - 1] = stack[size - 1] == 0 ? 1 : 0;
                } else if (size > 1) {
                    size--;
                    stack[size - 1] = joined(kind, stack[size - 1], stack[size]);
                }
                if (size == 0 || stack[size - 1] > MOST_VALUE || stack[size - 1] < -MOST_VALUE) {
                    return ERROR;
                }
            }
            return stack[0];
        }

        /** Joins two values that are in bounds; a value that is too great may be answered as it is, if a long holds it. */
        private static long joined(int sign, long left, long right) {
            long leftSize = left < 0 ? -left : left;
            long rightSize = right < 0 ? -right : right;
            switch (sign) {
                case '+':
                    return left + right;
                case '-':
                    return left - right;
                case '*':
                    return leftSize > 0 && rightSize > MOST_VALUE / leftSize ? ERROR : left * right;
                case '/':
                    return right == 0 ? ERROR : left / right;
                case '%':
                    return right == 0 ? ERROR : left % right;
                case Tokens.AND:
                    return left != 0 && right != 0 ? 1 : 0;
                case Tokens.OR:
                    return left != 0 || right != 0 ? 1 : 0;
                case '<':
                    return left < right ? 1 : 0;
                case Tokens.NOT_MORE:
                    return left <= right ? 1 : 0;
                case '=':
                    return left == right ? 1 : 0;
                case Tokens.UNLIKE:
                    return left != right ? 1 : 0;
                case Tokens.NOT_LESS:
                    return left >= right ? 1 : 0;
                default:
                    return left > right ? 1 : 0;
            }
        }
    }

    /** The TOKENS of a TEXT, one behind the other. */
    private static final class Tokens {
        /** The words of the language, in the order of the numbers below; the NAMES of E first. */
        private static final String WORDS =
                "coins age next elder place hour person purse hands to or parcel law may not and ";
        static final int COINS = 0;
        static final int AGE = 1;
        static final int NEXT = 2;
        static final int ELDER = 3;
        static final int PLACE = 4;
        static final int HOUR = 5;
        static final int PERSON = 6;
        static final int PURSE = 7;
        static final int HANDS = 8;
        static final int TO = 9;
        static final int OR = 10;
        static final int PARCEL = 11;
        static final int LAW_WORD = 12;
        static final int MAY = 13;
        static final int NOT = 14;
        static final int AND = 15;
        private static final int LANGUAGE = 16;

        /** The other kinds; a sign of one byte is its own kind. */
        static final int WORD = 16;
        static final int NUMBER = 17;
        static final int END = 18;
        static final int NO_TOKEN = 19;
        static final int NOT_MORE = 256;
        static final int UNLIKE = 257;
        static final int NOT_LESS = 258;

        private static final String SIGNS = ";()+-*/%<=>";
        private static final int LETTERS = 6;
        private static final int LETTER_BITS = 5;
        /** Beyond all numbers that may be told; a greater one counts as this. */
        private static final int TOO_GREAT = 1000000;

        int kind;
        int place;
        /** The letters of a WORD, or a NUMBER. */
        int value;
        private int behind;
        private int length;
        private final int[] bytes;
        private final int[] words = new int[LANGUAGE];

        Tokens(int[] tape) {
            bytes = tape;
            int word = 0;
            int letters = 0;
            int size = 0;
            for (int i = 0; i < WORDS.length() && word < LANGUAGE; i++) {
                if (WORDS.charAt(i) == ' ') {
                    words[word] = letters << LETTER_BITS * (LETTERS - size);
                    word++;
                    letters = 0;
                    size = 0;
                } else {
                    letters = letters << LETTER_BITS | WORDS.charAt(i) - 'a' + 1;
                    size++;
                }
            }
        }

        static boolean isName(int kind) {
            return within(kind, COINS, HOUR);
        }

        static boolean isComparison(int kind) {
            return within(kind, '<', '>') || within(kind, NOT_MORE, NOT_LESS);
        }

        /** Begins with the first of the TOKENS in so many bytes. */
        void begin(int size) {
            length = Math.min(size, bytes.length);
            behind = 0;
            advance();
        }

        void advance() {
            place = behind;
            while (place < length && (bytes[place] == 32 || bytes[place] == 10)) {
                place++;
            }
            behind = place;
            if (place >= length) {
                kind = END;
            } else if (within(bytes[place], 'a', 'z')) {
                readWord();
            } else if (within(bytes[place], '0', '9')) {
                readNumber();
            } else {
                readSign();
            }
        }

        private void readWord() {
            value = 0;
            while (behind < length && bytes[behind] >= 'a' && bytes[behind] <= 'z') {
                value = value << LETTER_BITS | bytes[behind] - 'a' + 1;
                behind++;
            }
            int size = behind - place;
            if (size > LETTERS) {
                kind = NO_TOKEN;
                return;
            }
            value <<= LETTER_BITS * (LETTERS - size);
            kind = WORD;
            for (int word = 0; word < LANGUAGE; word++) {
                if (words[word] == value) {
                    kind = word;
                }
            }
        }

        private void readNumber() {
            kind = NUMBER;
            value = 0;
            while (behind < length && bytes[behind] >= '0' && bytes[behind] <= '9') {
                value = Math.min(value * 10 + bytes[behind] - '0', TOO_GREAT);
                behind++;
            }
        }

        private void readSign() {
            int sign = bytes[place];
            kind = SIGNS.indexOf((char) sign) < 0 ? NO_TOKEN : sign;
            behind++;
            int second = behind < length ? bytes[behind] : NONE;
            if (sign == '<' && second == '=') {
                kind = NOT_MORE;
                behind++;
            } else if (sign == '<' && second == '>') {
                kind = UNLIKE;
                behind++;
            } else if (sign == '>' && second == '=') {
                kind = NOT_LESS;
                behind++;
            }
        }
    }

    /** Reads a TEXT up to its first FAULT. */
    private static final class Reader {
        private static final int MISPLACED = 1;
        private static final int TOO_MUCH = 2;
        private static final int TOLD_ALREADY = 3;
        private static final int NOT_TOLD = 4;
        private static final int ITSELF = 5;

        /** How closely the parts of E bind: the loosest first. */
        private static final int BY_OR = 0;
        private static final int BY_AND = 1;
        private static final int BY_NOT = 2;
        private static final int BY_COMPARISON = 3;
        private static final int BY_SUM = 4;
        private static final int BY_PRODUCT = 5;
        private static final int OPERAND = 6;

        int fault;
        int faultPlace;
        private final Tokens tokens;
        private Telling told;
        /** The latest number that was read. */
        private int number;

        Reader(int[] tape, Telling into) {
            tokens = new Tokens(tape);
            told = into;
        }

        /** Begins to read so many bytes of the tape. */
        void begin(int length, Telling into) {
            fault = 0;
            faultPlace = NONE;
            told = into;
            told.clear();
            tokens.begin(length);
        }

        /** Whether another LINE is to be read. */
        boolean goesOn() {
            return fault == 0 && tokens.kind != Tokens.END;
        }

        /** Notes a FAULT at the TOKEN that is next. */
        private boolean fails(int kind) {
            fault = kind;
            faultPlace = tokens.place;
            return false;
        }

        private boolean passes(int kind) {
            if (tokens.kind != kind) {
                return fails(MISPLACED);
            }
            tokens.advance();
            return true;
        }

        /** Reads a LINE; fault tells whether it may stand so. */
        boolean readLine() {
            switch (tokens.kind) {
                case Tokens.PERSON:
                    return personLine() && passes(';');
                case Tokens.HANDS:
                    return handsLine() && passes(';');
                case Tokens.PARCEL:
                    return parcelLine() && passes(';');
                case Tokens.LAW_WORD:
                    return lawLine() && passes(';');
                case Tokens.MAY:
                    return mayLine() && passes(';');
                default:
                    return fails(MISPLACED);
            }
        }

        private boolean personLine() {
            if (told.people >= MOST_PEOPLE) {
                return fails(TOO_MUCH);
            }
            tokens.advance();
            int letters = tokens.value;
            if (!newName(told.personNamed(letters)) || !readNumber(0, MOST_AGE)) {
                return false;
            }
            int person = told.people;
            told.addPerson(letters, number);
            if (tokens.kind != Tokens.PURSE) {
                return true;
            }
            tokens.advance();
            if (!readNumber(0, MOST_PURSE)) {
                return false;
            }
            told.purses[person] = number;
            return true;
        }

        /** Passes a W that names what wasn't named ahead: so far it is named by the number bearer, or NONE. */
        private boolean newName(int bearer) {
            if (tokens.kind != Tokens.WORD) {
                return fails(MISPLACED);
            }
            if (bearer != NONE) {
                return fails(TOLD_ALREADY);
            }
            tokens.advance();
            return true;
        }

        private boolean readNumber(int low, int high) {
            if (tokens.kind != Tokens.NUMBER) {
                return fails(MISPLACED);
            }
            if (!within(tokens.value, low, high)) {
                return fails(TOO_MUCH);
            }
            number = tokens.value;
            tokens.advance();
            return true;
        }

        private boolean handsLine() {
            tokens.advance();
            int giver = toldPerson();
            if (giver == NONE) {
                return false;
            }
            if (told.ways[giver] > 0) {
                return fails(TOLD_ALREADY);
            }
            tokens.advance();
            if (!passes(Tokens.TO) || !heirOf(giver)) {
                return false;
            }
            for (int more = 0; more < MOST_WAYS && tokens.kind == Tokens.OR; more++) {
                tokens.advance();
                if (!heirOf(giver)) {
                    return false;
                }
            }
            return true;
        }

        /** The PERSON of the W that is next; NONE with a FAULT. */
        private int toldPerson() {
            int person = tokens.kind == Tokens.WORD ? told.personNamed(tokens.value) : NONE;
            if (person == NONE) {
                fails(tokens.kind == Tokens.WORD ? NOT_TOLD : MISPLACED);
            }
            return person;
        }

        private boolean heirOf(int giver) {
            if (tokens.kind != Tokens.WORD) {
                return fails(MISPLACED);
            }
            if (told.ways[giver] >= MOST_WAYS) {
                return fails(TOO_MUCH);
            }
            int heir = told.personNamed(tokens.value);
            if (heir == NONE) {
                return fails(NOT_TOLD);
            }
            if (told.handsTo(giver, heir)) {
                return fails(TOLD_ALREADY);
            }
            if (heir == giver) {
                return fails(ITSELF);
            }
            told.addHeir(giver, heir);
            tokens.advance();
            return true;
        }

        private boolean parcelLine() {
            if (told.parcels >= TOLD_PARCELS) {
                return fails(TOO_MUCH);
            }
            tokens.advance();
            int person = toldPerson();
            if (person == NONE) {
                return false;
            }
            tokens.advance();
            if (!readNumber(1, MOST_COINS)) {
                return false;
            }
            int whole = number;
            if (!readNumber(0, MOST_DUE)) {
                return false;
            }
            told.addParcel(person, whole, number);
            return true;
        }

        private boolean lawLine() {
            if (told.laws.toldLaw) {
                return fails(TOLD_ALREADY);
            }
            tokens.advance();
            told.laws.toldLaw = true;
            told.laws.open(LAW);
            boolean stands = expression(BY_OR, 0);
            told.laws.close(LAW);
            return stands;
        }

        private boolean mayLine() {
            if (told.mays >= MOST_MAY) {
                return fails(TOO_MUCH);
            }
            tokens.advance();
            int letters = tokens.value;
            if (!newName(told.mayNamed(letters))) {
                return false;
            }
            told.laws.open(told.mays);
            boolean stands = expression(BY_OR, 0);
            told.laws.close(told.mays);
            told.addMay(letters);
            return stands;
        }

        /** Reads a part of E that binds so closely or closer, in so many open '('; the levels and '(' bound the depth. */
        private boolean expression(int level, int open) {
            if (level == BY_NOT) {
                return denial(open);
            }
            if (level >= OPERAND) {
                return operand(open);
            }
            if (!expression(level + 1, open)) {
                return false;
            }
            int most = level == BY_COMPARISON ? 1 : MOST_KNOTS;
            for (int i = 0; i < most && joins(level, tokens.kind); i++) {
                int sign = tokens.kind;
                if (!passKnot() || !expression(level + 1, open)) {
                    return false;
                }
                told.laws.write(sign, 0);
            }
            return true;
        }

        private static boolean joins(int level, int kind) {
            switch (level) {
                case BY_OR:
                    return kind == Tokens.OR;
                case BY_AND:
                    return kind == Tokens.AND;
                case BY_COMPARISON:
                    return Tokens.isComparison(kind);
                case BY_SUM:
                    return kind == '+' || kind == '-';
                case BY_PRODUCT:
                    return kind == '*' || kind == '/' || kind == '%';
                default:
                    return false;
            }
        }

        private boolean passKnot() {
            if (told.laws.knots >= MOST_KNOTS) {
                return fails(TOO_MUCH);
            }
            told.laws.knots++;
            tokens.advance();
            return true;
        }

        private boolean denial(int open) {
            int denials = 0;
            while (denials <= MOST_KNOTS && tokens.kind == Tokens.NOT) {
                if (!passKnot()) {
                    return false;
                }
                denials++;
            }
            if (!expression(BY_COMPARISON, open)) {
                return false;
            }
            for (int i = 0; i < denials; i++) {
                told.laws.write(Tokens.NOT, 0);
            }
            return true;
        }

        private boolean operand(int open) {
            if (tokens.kind == '(') {
                return enclosed(open);
            }
            if (tokens.kind != Tokens.NUMBER && !Tokens.isName(tokens.kind)) {
                return fails(MISPLACED);
            }
            if (tokens.kind == Tokens.NUMBER && tokens.value > MOST_NUMBER) {
                return fails(TOO_MUCH);
            }
            int kind = tokens.kind;
            int value = tokens.value;
            if (!passKnot()) {
                return false;
            }
            told.laws.write(kind, value);
            return true;
        }

        private boolean enclosed(int open) {
            if (open >= MOST_OPEN) {
                return fails(TOO_MUCH);
            }
            tokens.advance();
            return expression(BY_OR, open + 1) && passes(')');
        }
    }

    /** PARCELS on their way, HOUR by HOUR. */
    private static final class Journey {
        static final int NOT_SENT = 0;
        static final int UNDER_WAY = 1;
        static final int AT_REST = 2;

        int hour;
        final int[] purses = new int[MOST_PEOPLE];
        final int[] turns = new int[MOST_PEOPLE];
        int parcels;
        final int[] from = new int[MOST_PARCELS];
        final int[] wholes = new int[MOST_PARCELS];
        final int[] due = new int[MOST_PARCELS];
        final int[] states = new int[MOST_PARCELS];
        final int[] left = new int[MOST_PARCELS];
        final int[] hands = new int[MOST_PARCELS];
        final int[] to = new int[MOST_PARCELS];
        private Telling told;
        /** What is otherwise than told, and of whom. */
        private int otherwise = AS_TOLD;
        private int whose;

        Journey(Telling telling) {
            told = telling;
        }

        void begin(Telling telling) {
            start(telling, AS_TOLD, 0);
            for (int i = 0; i < telling.parcels; i++) {
                add(telling.from[i], telling.coins[i], telling.due[i]);
            }
        }

        /** Begins anew with all PARCELS of another journey, something being otherwise. */
        void beginLike(Journey other, int what, int who) {
            start(other.told, what, who);
            for (int i = 0; i < other.parcels; i++) {
                add(other.from[i], other.wholes[i], other.due[i]);
            }
        }

        private void start(Telling telling, int what, int who) {
            told = telling;
            otherwise = what;
            whose = who;
            hour = 0;
            parcels = 0;
            System.arraycopy(telling.purses, 0, purses, 0, MOST_PEOPLE);
            Arrays.fill(turns, 0);
        }

        void copyFrom(Journey other) {
            told = other.told;
            otherwise = other.otherwise;
            whose = other.whose;
            hour = other.hour;
            parcels = other.parcels;
            System.arraycopy(other.purses, 0, purses, 0, MOST_PEOPLE);
            System.arraycopy(other.turns, 0, turns, 0, MOST_PEOPLE);
            System.arraycopy(other.from, 0, from, 0, MOST_PARCELS);
            System.arraycopy(other.wholes, 0, wholes, 0, MOST_PARCELS);
            System.arraycopy(other.due, 0, due, 0, MOST_PARCELS);
            System.arraycopy(other.states, 0, states, 0, MOST_PARCELS);
            System.arraycopy(other.left, 0, left, 0, MOST_PARCELS);
            System.arraycopy(other.hands, 0, hands, 0, MOST_PARCELS);
            System.arraycopy(other.to, 0, to, 0, MOST_PARCELS);
        }

        /** The number of a new PARCEL; NONE, if there is no room. */
        int add(int person, int whole, int itsHour) {
            if (parcels >= MOST_PARCELS) {
                return NONE;
            }
            from[parcels] = person;
            wholes[parcels] = whole;
            due[parcels] = itsHour;
            states[parcels] = NOT_SENT;
            left[parcels] = 0;
            hands[parcels] = 0;
            to[parcels] = NONE;
            parcels++;
            return parcels - 1;
        }

        boolean isParcel(int parcel) {
            return within(parcel, 0, parcels - 1);
        }

        int inState(int state) {
            int found = 0;
            for (int i = 0; i < parcels; i++) {
                if (states[i] == state) {
                    found++;
                }
            }
            return found;
        }

        long allCoins() {
            long sum = 0;
            for (int person = 0; person < told.people; person++) {
                sum += purses[person];
            }
            for (int i = 0; i < parcels; i++) {
                sum += left[i];
            }
            return sum;
        }

        int hoursTillRest() {
            for (int passed = 0; passed <= LAST_HOUR; passed++) {
                if (inState(AT_REST) == parcels) {
                    return passed;
                }
                pass();
            }
            return LACKING;
        }

        /** Lets all HOURS ahead of one go by. */
        void passTo(int end) {
            for (int h = hour; h < end; h++) {
                pass();
            }
        }

        private void pass() {
            for (int i = 0; i < parcels; i++) {
                if (states[i] == NOT_SENT && due[i] == hour && !isLeftOut(i)) {
                    dispatch(i);
                }
            }
            for (int i = 0; i < parcels; i++) {
                if (states[i] == UNDER_WAY && due[i] < hour) {
                    bring(i);
                }
            }
            hour++;
        }

        private boolean isLeftOut(int parcel) {
            return otherwise == PARCEL_NOT_SENT && whose == parcel;
        }

        private void dispatch(int parcel) {
            left[parcel] = wholes[parcel];
            if (waysOf(from[parcel]) == 0) {
                settle(parcel, from[parcel]);
            } else {
                handOn(parcel, from[parcel]);
            }
        }

        private void bring(int parcel) {
            int person = to[parcel];
            hands[parcel]++;
            if (waysOf(person) == 0 || hands[parcel] >= MOST_HANDS) {
                settle(parcel, person);
                return;
            }
            int share = shareOf(person, parcel);
            purses[person] += share;
            left[parcel] -= share;
            if (left[parcel] > 0) {
                handOn(parcel, person);
            } else {
                settle(parcel, person);
            }
        }

        private int waysOf(int person) {
            int ways = told.ways[person];
            if (otherwise == HANDS_TO_NOBODY && whose == person) {
                return 0;
            }
            return otherwise == FIRST_WAY_ALONE ? Math.min(ways, 1) : ways;
        }

        private int shareOf(int person, int parcel) {
            int coins = left[parcel];
            if (otherwise == NO_ODD_ONE_KEPT) {
                return coins / 2;
            }
            if (otherwise == KEEPS_ODD_ONES && whose == person) {
                return coins - coins / 2;
            }
            int age = ageOf(person);
            int next = ageOf(told.heir(person, turns[person]));
            boolean stays = coins % 2 != 0 && told.laws.oddStays(LAW, coins, age, next, hands[parcel], hour);
            return stays ? coins / 2 + 1 : coins / 2;
        }

        private int ageOf(int person) {
            return otherwise == ALL_NEWBORN || !told.isPerson(person) ? 0 : told.ages[person];
        }

        private void handOn(int parcel, int person) {
            states[parcel] = UNDER_WAY;
            to[parcel] = told.heir(person, turns[person]);
            turns[person] = turns[person] + 1 < waysOf(person) ? turns[person] + 1 : 0;
        }

        /** A PARCEL comes to rest; what is left of it stays. */
        private void settle(int parcel, int person) {
            purses[person] += left[parcel];
            left[parcel] = 0;
            states[parcel] = AT_REST;
            to[parcel] = NONE;
        }
    }

    /** A ROW of PEOPLE. */
    private static final class Row {
        private static final int PERSON_BITS = 4;

        int length;
        final int[] people = new int[MOST_PEOPLE];

        /** Takes a ROW from a long, whatever its bits above those of the n PEOPLE are; false: it isn't one. */
        boolean take(int n, long code, int among) {
            if (!within(n, 2, MOST_PEOPLE)) {
                return false;
            }
            int seen = 0;
            for (int i = 0; i < n; i++) {
                int person = (int) (code >>> PERSON_BITS * i) & 15;
                if (person >= among || (seen >> person & 1) != 0) {
                    return false;
                }
                seen |= 1 << person;
                people[i] = person;
            }
            length = n;
            return true;
        }

        static long placed(int person, int at) {
            return (long) person << PERSON_BITS * at;
        }

        int carriers() {
            return length - 2;
        }

        /** The place of a CARRIER (1 up); 0: he is none of them. */
        int placeOf(int person) {
            for (int place = 1; place < length - 1; place++) {
                if (people[place] == person) {
                    return place;
                }
            }
            return 0;
        }

        boolean isCarrier(int person) {
            return placeOf(person) > 0;
        }

        void swapAt(int place) {
            int person = people[place];
            people[place] = people[place + 1];
            people[place + 1] = person;
        }

        int arriving(Telling told, int law, int coins) {
            int left = coins;
            for (int place = 1; place < length - 1; place++) {
                left -= told.laws.share(law, left, ageAt(told, place), ageAt(told, place + 1), place, 0);
            }
            return left;
        }

        int keptAt(Telling told, int coins, int carrier) {
            int left = coins;
            int kept = 0;
            for (int place = 1; place <= carrier && place < length - 1; place++) {
                kept = told.laws.share(LAW, left, ageAt(told, place), ageAt(told, place + 1), place, 0);
                left -= kept;
            }
            return kept;
        }

        private int ageAt(Telling told, int place) {
            return told.ages[people[place]];
        }

        /** The least number of coins of which t or more ARRIVE. */
        int leastBringing(Telling told, int t) {
            int unit = 1 << carriers();
            int low = Math.max(0, (t - 1) * unit + 1);
            int high = t * unit;
            for (int step = 0; step <= carriers() && low < high; step++) {
                int middle = (low + high) / 2;
                if (arriving(told, LAW, middle) >= t) {
                    high = middle;
                } else {
                    low = middle + 1;
                }
            }
            return high;
        }
    }

    /**
     * The ORDERS of a ROW, without laying each of them: by halving, there are but two numbers of coins with which
     * the CARRIER at a place can be met (cut, or one more), so that a state is who was placed, who of them last,
     * and which of the two he gets. CARRIERS are numbered here by rising PERSONS, so that the first ORDER is found
     * by always taking the least CARRIER that leads to what is asked.
     */
    private static final class Orders {
        /** What the table tells of each state: of all ORDERS that go on from it .. */
        private static final int HOW_MANY = 0;
        private static final int FEWEST_SWAPS = 1;
        private static final int MOST_KEPT = 2;
        private static final int LEAST_KEPT = 3;

        private static final int NEVER = 1 << 29;
        private static final int SIDES = MOST_CARRIERS + 1;

        private final Row row;
        private Telling told;
        private int size;
        private final int[] carriers = new int[MOST_CARRIERS];
        /** At which place of the ROW itself each CARRIER is. */
        private final int[] homes = new int[MOST_CARRIERS];
        /** The lesser number of coins with which each place can be met; that of the sender at 0. */
        private final int[] floors = new int[MOST_CARRIERS + 2];
        /** Whether the odd one stays, by place, CARRIER and the one behind him (size: the one who gets). */
        private final boolean[] stays = new boolean[SIDES * SIDES * SIDES];
        private final int[] table = new int[(1 << MOST_CARRIERS) * MOST_CARRIERS * 2];
        private final int[] laid = new int[MOST_CARRIERS];
        private int laidSize;
        private int aim;
        /** The number that shall ARRIVE, or the CARRIER whose coins are asked for. */
        private int wanted;

        Orders(Row ofRow, Telling telling) {
            row = ofRow;
            told = telling;
        }

        /** Takes the ROW as it is now, with so many coins. */
        void take(Telling telling, int coins) {
            told = telling;
            size = 0;
            for (int person = 0; person < told.people; person++) {
                if (row.isCarrier(person) && size < MOST_CARRIERS) {
                    carriers[size] = person;
                    homes[size] = row.placeOf(person);
                    size++;
                }
            }
            floors[0] = coins;
            for (int place = 1; place <= size + 1; place++) {
                floors[place] = coins >> place - 1;
            }
            askOddOnes();
        }

        private void askOddOnes() {
            int getter = row.people[row.length - 1];
            for (int place = 1; place <= size; place++) {
                for (int one = 0; one < size; one++) {
                    for (int next = 0; place < size && next < size; next++) {
                        askOddOne(place, one, next, carriers[next]);
                    }
                    if (place == size) {
                        askOddOne(place, one, size, getter);
                    }
                }
            }
        }

        /** Of the two numbers that may meet a place, one at most is odd. */
        private void askOddOne(int place, int one, int next, int person) {
            int age = told.ages[carriers[one]];
            stays[way(place, one, next)] =
                    told.laws.oddStays(LAW, floors[place] | 1, age, told.ages[person], place, 0);
        }

        private static int way(int place, int one, int next) {
            return (place * SIDES + one) * SIDES + next;
        }

        int mostArriving() {
            int most = ceiling(floors[0], size);
            return solved(HOW_MANY, most) > 0 ? most : floors[size + 1];
        }

        int leastArriving() {
            int least = floors[size + 1];
            return solved(HOW_MANY, least) > 0 ? least : ceiling(floors[0], size);
        }

        int howManyBring(int t) {
            return solved(HOW_MANY, t);
        }

        /** The first ROW by which just t ARRIVES; -2: none. */
        long firstBringing(int t) {
            return howManyBring(t) > 0 ? laidRow(0) : LACKING;
        }

        int fewestSwaps(int t) {
            int swaps = solved(FEWEST_SWAPS, t);
            return swaps < NEVER ? swaps : LACKING;
        }

        long nearestBringing(int t) {
            int swaps = fewestSwaps(t);
            return swaps >= 0 ? laidRow(swaps) : LACKING;
        }

        int gain(int person, boolean most) {
            return solved(most ? MOST_KEPT : LEAST_KEPT, numberOf(person));
        }

        int gainPlace(int person, boolean most) {
            lay(gain(person, most));
            return laidSize;
        }

        private int numberOf(int person) {
            for (int one = 0; one < size; one++) {
                if (carriers[one] == person) {
                    return one;
                }
            }
            return NONE;
        }

        /** Fills the table from the states in which all are placed backwards: what it tells of all ORDERS. */
        private int solved(int whatAim, int whatWanted) {
            aim = whatAim;
            wanted = whatWanted;
            for (int placed = everybody(); placed > 0; placed--) {
                for (int last = 0; last < size; last++) {
                    if (has(placed, last)) {
                        table[state(placed, last, 0)] = judged(placed, last, 0);
                        table[state(placed, last, 1)] = judged(placed, last, 1);
                    }
                }
            }
            return judged(0, 0, 0);
        }

        private int everybody() {
            return (1 << size) - 1;
        }

        private static boolean has(int placed, int one) {
            return (placed >> one & 1) != 0;
        }

        private static int state(int placed, int last, int more) {
            return (placed * MOST_CARRIERS + last) * 2 + more;
        }

        private int judged(int placed, int last, int more) {
            int coins = floors[Integer.bitCount(placed)] + more;
            if (placed == everybody()) {
                return judgedEnd(placed, last, coins);
            }
            int result = aim == HOW_MANY ? 0 : aim == MOST_KEPT ? -1 : NEVER;
            for (int next = 0; next < size; next++) {
                if (!has(placed, next)) {
                    result = joined(result, judgedStep(placed, last, coins, next));
                }
            }
            return result;
        }

        private int judgedEnd(int placed, int last, int coins) {
            int left = handed(placed, last, coins, size);
            if (isAskedOf(placed, last)) {
                return coins - left;
            }
            boolean just = left == wanted;
            if (aim == HOW_MANY) {
                return just ? 1 : 0;
            }
            return aim == FEWEST_SWAPS && just ? 0 : NEVER;
        }

        /** What follows, if the last one who was placed hands on to next. */
        private int judgedStep(int placed, int last, int coins, int next) {
            int left = handed(placed, last, coins, next);
            if (isAskedOf(placed, last)) {
                return coins - left;
            }
            int more = left > floors[Integer.bitCount(placed) + 1] ? 1 : 0;
            int later = table[state(placed | 1 << next, next, more)];
            return aim == FEWEST_SWAPS ? later + overtaken(placed, next) : later;
        }

        /** Whether the last one who was placed is he whose coins are asked for. */
        private boolean isAskedOf(int placed, int last) {
            return (aim == MOST_KEPT || aim == LEAST_KEPT) && placed != 0 && last == wanted;
        }

        private int joined(int one, int other) {
            switch (aim) {
                case HOW_MANY:
                    return one + other;
                case MOST_KEPT:
                    return Math.max(one, other);
                default:
                    return Math.min(one, other);
            }
        }

        /** What the last one who was placed hands on of coins; the sender, all. */
        private int handed(int placed, int last, int coins, int next) {
            if (placed == 0) {
                return coins;
            }
            boolean goesOn = coins % 2 != 0 && !stays[way(Integer.bitCount(placed), last, next)];
            return goesOn ? coins / 2 + 1 : coins / 2;
        }

        /** How many who aren't placed yet stand ahead of one in the ROW itself: so many changes bring him here. */
        private int overtaken(int placed, int one) {
            int found = 0;
            for (int other = 0; other < size; other++) {
                if (!has(placed, other) && homes[other] < homes[one]) {
                    found++;
                }
            }
            return found;
        }

        private long laidRow(int promised) {
            lay(promised);
            long code = Row.placed(row.people[0], 0);
            for (int i = 0; i < laidSize; i++) {
                code |= Row.placed(carriers[laid[i]], i + 1);
            }
            return code | Row.placed(row.people[row.length - 1], row.length - 1);
        }

        /** Lays the first ORDER that does what the table promises; where coins are asked for, only to whom they are. */
        private void lay(int promised) {
            int rest = promised;
            int placed = 0;
            int last = 0;
            int coins = floors[0];
            laidSize = 0;
            while (laidSize < size && !isAskedOf(placed, last)) {
                int next = chosen(placed, last, coins, rest);
                if (aim == FEWEST_SWAPS) {
                    rest -= overtaken(placed, next);
                }
                coins = handed(placed, last, coins, next);
                placed |= 1 << next;
                last = next;
                laid[laidSize] = next;
                laidSize++;
            }
        }

        private int chosen(int placed, int last, int coins, int promised) {
            for (int next = 0; next < size; next++) {
                if (!has(placed, next) && leads(judgedStep(placed, last, coins, next), promised)) {
                    return next;
                }
            }
            return 0;
        }

        private boolean leads(int judgement, int promised) {
            return aim == HOW_MANY ? judgement > 0 : judgement == promised;
        }
    }

    /** NOTES and STRIKES as they came. */
    private static final class Notes {
        int size;
        /** By how many it is KNOWN; NONE: by all. */
        int knownBy = NONE;
        final int[] lengths = new int[MOST_NOTES];
        final long[] rows = new long[MOST_NOTES];
        final int[] coins = new int[MOST_NOTES];
        private final int[] lows = new int[MOST_NOTES];
        private final int[] highs = new int[MOST_NOTES];
        /** Which one a STRIKE strikes; NONE of a NOTE. */
        private final int[] targets = new int[MOST_NOTES];
        private final boolean[] struck = new boolean[MOST_NOTES];

        void clear() {
            size = 0;
            knownBy = NONE;
        }

        int add(int length, long row, int sent, int low, int high) {
            if (size >= MOST_NOTES) {
                return NONE;
            }
            lengths[size] = length;
            rows[size] = row;
            coins[size] = sent;
            lows[size] = low;
            highs[size] = high;
            targets[size] = NONE;
            size++;
            return size - 1;
        }

        int addStrike(int target) {
            if (size >= MOST_NOTES) {
                return NONE;
            }
            targets[size] = target;
            size++;
            return size - 1;
        }

        int knownSize() {
            return knownBy == NONE ? size : knownBy;
        }

        /** From the last one on: whether a STRIKE is STRUCK itself is settled when it is asked. */
        void markStruck() {
            for (int i = 0; i < size; i++) {
                struck[i] = false;
            }
            for (int i = knownSize() - 1; i >= 0; i--) {
                if (!struck[i] && targets[i] != NONE) {
                    struck[targets[i]] = true;
                }
            }
        }

        /** Whether it is a KNOWN NOTE, by the latest marks. */
        boolean holds(int note) {
            return note < knownSize() && targets[note] == NONE && !struck[note];
        }

        boolean allows(int note, int arrived) {
            return within(arrived, lows[note], highs[note]);
        }
    }
}
