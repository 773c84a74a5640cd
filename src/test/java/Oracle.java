import java.math.BigInteger;
import java.util.ArrayList;
import java.util.Collections;
import java.util.HashSet;
import java.util.List;

/** The answers by the plainest ways: all ORDERS laid one by one, all numbers tried, each HOUR told by lists. */
final class Oracle {
    private static final class Parcel {
        int from;
        int coins;
        int hour;
        int state;
        int left;
        int hands;
        int to = -1;
    }

    /** People with purses and turns, and parcels on their way; what is otherwise, if anything. */
    private static final class World {
        int hour;
        int[] purses = new int[10];
        int[] turns = new int[10];
        List<Parcel> parcels = new ArrayList<>();
        int otherwise = -1;
        int whose;

        World copy() {
            World other = new World();
            other.hour = hour;
            other.purses = purses.clone();
            other.turns = turns.clone();
            for (Parcel parcel : parcels) {
                Parcel twin = new Parcel();
                twin.from = parcel.from;
                twin.coins = parcel.coins;
                twin.hour = parcel.hour;
                twin.state = parcel.state;
                twin.left = parcel.left;
                twin.hands = parcel.hands;
                twin.to = parcel.to;
                other.parcels.add(twin);
            }
            return other;
        }
    }

    private static final class Note {
        int[] row;
        int coins;
        int low;
        int high;
        int strikes = -1;
    }

    private final OracleText told;
    private World world;
    private World image;
    private final List<Note> notes = new ArrayList<>();
    private int known = -1;

    Oracle(String text) {
        told = new OracleText(text);
        world = fresh();
        for (OracleText.Parcel parcel : told.parcels) {
            add(world, parcel.from, parcel.coins, parcel.hour);
        }
    }

    private World fresh() {
        World start = new World();
        for (int i = 0; i < told.people.size(); i++) {
            start.purses[i] = told.people.get(i).purse;
        }
        return start;
    }

    private static void add(World world, int from, int coins, int hour) {
        Parcel parcel = new Parcel();
        parcel.from = from;
        parcel.coins = coins;
        parcel.hour = hour;
        world.parcels.add(parcel);
    }

    private boolean person(int i) {
        return i >= 0 && i < told.people.size();
    }

    int named(int what, int letters) {
        List<String> names = new ArrayList<>();
        if (what == 0) {
            told.people.forEach(person -> names.add(person.name));
        } else if (what == 1) {
            names.addAll(told.mayNames);
        }
        for (String name : names) {
            if (Check.letters(name) == letters) {
                return names.indexOf(name);
            }
        }
        return -1;
    }

    int look(int person, int what) {
        OracleText.Person one = told.people.get(person);
        switch (what) {
            case 0: return one.age;
            case 1: return world.purses[person];
            case 2: return one.heirs.size();
            case 6: return world.turns[person];
            default: return what - 3 < one.heirs.size() ? one.heirs.get(what - 3) : -1;
        }
    }

    int hours(int n) {
        if (n < 0 || n > 300 || world.hour + n > 3000) {
            return -1;
        }
        for (int i = 0; i < n; i++) {
            pass(world);
        }
        return world.hour;
    }

    private List<Integer> heirs(World in, int person) {
        List<Integer> heirs = told.people.get(person).heirs;
        if (in.otherwise == 0 && in.whose == person) {
            return Collections.emptyList();
        }
        return in.otherwise == 2 && heirs.size() > 1 ? heirs.subList(0, 1) : heirs;
    }

    private void pass(World in) {
        List<Parcel> coming = new ArrayList<>();
        for (Parcel parcel : in.parcels) {
            if (parcel.state == 1) {
                coming.add(parcel);
            }
        }
        for (int i = 0; i < in.parcels.size(); i++) {
            Parcel parcel = in.parcels.get(i);
            if (parcel.hour == in.hour && !(in.otherwise == 5 && in.whose == i)) {
                if (heirs(in, parcel.from).isEmpty()) {
                    parcel.state = 2;
                    in.purses[parcel.from] += parcel.coins;
                } else {
                    parcel.left = parcel.coins;
                    hand(in, parcel, parcel.from);
                }
            }
        }
        for (Parcel parcel : coming) {
            come(in, parcel, parcel.to);
        }
        in.hour++;
    }

    private void hand(World in, Parcel parcel, int person) {
        List<Integer> heirs = heirs(in, person);
        parcel.state = 1;
        parcel.to = heirs.get(in.turns[person]);
        in.turns[person] = (in.turns[person] + 1) % heirs.size();
    }

    private void come(World in, Parcel parcel, int person) {
        parcel.hands++;
        List<Integer> heirs = heirs(in, person);
        int kept = parcel.left;
        if (!heirs.isEmpty() && parcel.hands < 100) {
            int heir = heirs.get(in.turns[person]);
            kept = parcel.left / 2;
            if (parcel.left % 2 == 1 && stays(in, parcel, person, heir)) {
                kept++;
            }
        }
        in.purses[person] += kept;
        parcel.left -= kept;
        if (parcel.left > 0) {
            hand(in, parcel, person);
        } else {
            parcel.state = 2;
            parcel.to = -1;
        }
    }

    private boolean stays(World in, Parcel parcel, int person, int heir) {
        if (in.otherwise == 4) {
            return false;
        }
        if (in.otherwise == 3 && in.whose == person) {
            return true;
        }
        int age = in.otherwise == 1 ? 0 : told.people.get(person).age;
        int next = in.otherwise == 1 ? 0 : told.people.get(heir).age;
        return stays(told.mays.size(), parcel.left, age, next, parcel.hands, in.hour);
    }

    private boolean stays(int law, int coins, int age, int next, int place, int hour) {
        OracleText.Tree tree = law < told.mays.size() ? told.mays.get(law) : told.law;
        if (tree == null) {
            return age > next;
        }
        BigInteger value = tree.value(coins, age, next, place, hour);
        return value != null && value.signum() != 0;
    }

    int send(int person, int coins) {
        if (!person(person) || coins < 1 || coins > 99999 || world.parcels.size() == 30) {
            return -1;
        }
        add(world, person, coins, world.hour);
        return world.parcels.size() - 1;
    }

    int parcel(int number, int what) {
        if (number < 0 || number >= world.parcels.size()) {
            return -1;
        }
        Parcel parcel = world.parcels.get(number);
        switch (what) {
            case 0: return parcel.from;
            case 1: return parcel.coins;
            case 2: return parcel.hour;
            case 3: return parcel.state;
            case 4: return parcel.left;
            case 5: return parcel.hands;
            case 6: return parcel.to;
            default: return -1;
        }
    }

    long coins() {
        long sum = 0;
        for (int purse : world.purses) {
            sum += purse;
        }
        for (Parcel parcel : world.parcels) {
            sum += parcel.left;
        }
        return sum;
    }

    int rest() {
        World later = world.copy();
        int hours = 0;
        while (!later.parcels.stream().allMatch(parcel -> parcel.state == 2)) {
            pass(later);
            hours++;
        }
        return hours;
    }

    /** The people of a ROW; null: it is none. */
    private int[] row(int n, long code) {
        if (n < 2 || n > 10) {
            return null;
        }
        int[] row = new int[n];
        HashSet<Integer> seen = new HashSet<>();
        for (int i = 0; i < n; i++) {
            row[i] = (int) (code >> 4 * i & 15);
            if (!person(row[i]) || !seen.add(row[i])) {
                return null;
            }
        }
        return row;
    }

    private static boolean sent(int coins) {
        return coins >= 0 && coins <= 999999;
    }

    private int age(int person) {
        return told.people.get(person).age;
    }

    /** What each one of a ROW has in the end, by a law. */
    private int[] shares(int[] row, int law, int coins) {
        int[] shares = new int[row.length];
        int left = coins;
        for (int i = 1; i < row.length - 1; i++) {
            shares[i] = left / 2;
            if (left % 2 == 1 && stays(law, left, age(row[i]), age(row[i + 1]), i, 0)) {
                shares[i]++;
            }
            left -= shares[i];
        }
        shares[row.length - 1] = left;
        return shares;
    }

    private int arriving(int[] row, int law, int coins) {
        return shares(row, law, coins)[row.length - 1];
    }

    private int arriving(int[] row, int coins) {
        return arriving(row, told.mays.size(), coins);
    }

    int arrives(int n, long code, int coins) {
        int[] row = row(n, code);
        return row == null || !sent(coins) ? -1 : arriving(row, coins);
    }

    int keeps(int n, long code, int coins, int k) {
        int[] row = row(n, code);
        if (row == null || !sent(coins) || k < 1 || k > n - 2) {
            return -1;
        }
        return shares(row, told.mays.size(), coins)[k];
    }

    /** All numbers that ARRIVE as t, looked for far around. */
    private List<Integer> numbers(int[] row, int t) {
        List<Integer> numbers = new ArrayList<>();
        int unit = 1 << row.length - 2;
        for (int coins = Math.max(0, (t - 3) * unit); coins <= Math.min(999999, (t + 3) * unit); coins++) {
            if (arriving(row, coins) == t) {
                numbers.add(coins);
            }
        }
        return numbers;
    }

    private static List<int[]> spans(List<Integer> numbers) {
        List<int[]> spans = new ArrayList<>();
        for (int number : numbers) {
            if (spans.isEmpty() || spans.get(spans.size() - 1)[1] != number - 1) {
                spans.add(new int[] {number, number});
            }
            spans.get(spans.size() - 1)[1] = number;
        }
        return spans;
    }

    int back(int n, long code, int t, int what) {
        int[] row = row(n, code);
        if (row == null || t < 0 || t > 99999 || what < 0 || what > 3) {
            return -1;
        }
        List<Integer> numbers = numbers(row, t);
        if (what == 0) {
            return numbers.size();
        }
        if (what == 3) {
            return spans(numbers).size();
        }
        return numbers.isEmpty() ? -1 : numbers.get(what == 1 ? 0 : numbers.size() - 1);
    }

    int span(int n, long code, int t, int k, int what) {
        int[] row = row(n, code);
        if (row == null || t < 0 || t > 99999 || what < 0 || what > 1) {
            return -1;
        }
        List<int[]> spans = spans(numbers(row, t));
        return k < 0 || k >= spans.size() ? -1 : spans.get(k)[what];
    }

    /** All ORDERS of a ROW, the first ahead. */
    private static List<int[]> orders(int[] row) {
        List<Integer> carriers = new ArrayList<>();
        for (int i = 1; i < row.length - 1; i++) {
            carriers.add(row[i]);
        }
        Collections.sort(carriers);
        List<int[]> orders = new ArrayList<>();
        lay(row.clone(), 1, carriers, orders);
        return orders;
    }

    private static void lay(int[] row, int place, List<Integer> carriers, List<int[]> orders) {
        if (carriers.isEmpty()) {
            orders.add(row.clone());
            return;
        }
        for (int i = 0; i < carriers.size(); i++) {
            List<Integer> others = new ArrayList<>(carriers);
            row[place] = others.remove(i);
            lay(row, place + 1, others, orders);
        }
    }

    private int[] extreme(int[] row, int coins, int what) {
        int[] found = null;
        for (int[] order : orders(row)) {
            int sign = what == 0 ? 1 : -1;
            if (found == null || sign * arriving(order, coins) > sign * arriving(found, coins)) {
                found = order;
            }
        }
        return found;
    }

    long best(int n, long code, int coins, int what, boolean asRow) {
        int[] row = row(n, code);
        if (row == null || !sent(coins) || what < 0 || what > 1) {
            return -1;
        }
        int[] found = extreme(row, coins, what);
        return asRow ? Check.row(found) : arriving(found, coins);
    }

    long just(int n, long code, int coins, int t, boolean asRow) {
        int[] row = row(n, code);
        if (row == null || !sent(coins) || !sent(t)) {
            return -1;
        }
        int found = 0;
        for (int[] order : orders(row)) {
            if (arriving(order, coins) == t) {
                if (asRow) {
                    return Check.row(order);
                }
                found++;
            }
        }
        return asRow ? -2 : found;
    }

    int gains(int n, long code, int coins, int person, int what) {
        int[] row = row(n, code);
        if (row == null || !sent(coins) || what < 0 || what > 3) {
            return -1;
        }
        int found = -1;
        int place = -1;
        for (int[] order : orders(row)) {
            for (int i = 1; i < n - 1; i++) {
                if (order[i] == person) {
                    int share = shares(order, told.mays.size(), coins)[i];
                    if (found < 0 || (what < 2 ? share > found : share < found)) {
                        found = share;
                        place = i;
                    }
                }
            }
        }
        return what % 2 == 0 ? found : place;
    }

    long changes(int n, long code, int coins, int t, boolean asRow) {
        int[] row = row(n, code);
        if (row == null || !sent(coins) || !sent(t)) {
            return -1;
        }
        int fewest = 1000;
        long found = -2;
        for (int[] order : orders(row)) {
            if (arriving(order, coins) == t && inversions(row, order) < fewest) {
                fewest = inversions(row, order);
                found = Check.row(order);
            }
        }
        return asRow ? found : found == -2 ? -2 : fewest;
    }

    /** By sorting one order into the other with changes of neighbours. */
    private static int inversions(int[] row, int[] order) {
        int[] sorted = order.clone();
        int changes = 0;
        for (int i = 0; i < row.length; i++) {
            int at = i;
            while (sorted[at] != row[i]) {
                at++;
            }
            for (; at > i; at--) {
                sorted[at] = sorted[at - 1];
                changes++;
            }
            sorted[i] = row[i];
        }
        return changes;
    }

    int worth(int n, long code, int coins, int k) {
        int[] row = row(n, code);
        if (row == null || !sent(coins) || k < 1 || k > n - 3) {
            return Integer.MIN_VALUE;
        }
        int before = arriving(row, coins);
        int one = row[k];
        row[k] = row[k + 1];
        row[k + 1] = one;
        return arriving(row, coins) - before;
    }

    int serves(int n, long code, int most) {
        int[] row = row(n, code);
        if (row == null || most < 1 || most > 50) {
            return -1;
        }
        for (int coins = 1; coins <= most; coins++) {
            if (arriving(row, coins) < arriving(extreme(row, coins, 0), coins)) {
                return coins;
            }
        }
        return 0;
    }

    long law(int coins, int age, int next, int place, int hour) {
        if (told.law == null || !name(coins) || !name(place) || !name(hour) || age < 0 || age > 99 || next < 0
                || next > 99) {
            return Long.MIN_VALUE;
        }
        BigInteger value = told.law.value(coins, age, next, place, hour);
        return value == null ? Long.MIN_VALUE : value.longValueExact();
    }

    private static boolean name(int value) {
        return value >= 0 && value <= 9999;
    }

    int note(int n, long code, int coins, int low, int high) {
        int[] row = row(n, code);
        if (row == null || !sent(coins) || !sent(low) || !sent(high) || high < low || notes.size() == 40) {
            return -1;
        }
        Note note = new Note();
        note.row = row;
        note.coins = coins;
        note.low = low;
        note.high = high;
        notes.add(note);
        return notes.size() - 1;
    }

    int strike(int target) {
        if (target < 0 || target >= notes.size() || notes.size() == 40) {
            return -1;
        }
        Note note = new Note();
        note.strikes = target;
        notes.add(note);
        return notes.size() - 1;
    }

    boolean known(int n) {
        if (n < -1 || n > notes.size()) {
            return false;
        }
        known = n;
        return true;
    }

    private int knownSize() {
        return known < 0 ? notes.size() : known;
    }

    /** Whether one of the KNOWN that counts itself strikes it. */
    private boolean struck(int note) {
        for (int i = note + 1; i < knownSize(); i++) {
            if (notes.get(i).strikes == note && !struck(i)) {
                return true;
            }
        }
        return false;
    }

    int fits() {
        int bits = 0;
        for (int law = 0; law <= told.mays.size(); law++) {
            boolean fits = true;
            for (int i = 0; i < knownSize(); i++) {
                Note note = notes.get(i);
                if (note.strikes < 0 && !struck(i)) {
                    int arrived = arriving(note.row, law, note.coins);
                    fits &= arrived >= note.low && arrived <= note.high;
                }
            }
            bits |= fits ? 1 << law : 0;
        }
        return bits;
    }

    int apart(int n, long code, int one, int other) {
        int[] row = row(n, code);
        int laws = told.mays.size();
        if (row == null || one < 0 || one > laws || other < 0 || other > laws) {
            return -1;
        }
        for (int coins = 1; coins <= 999; coins++) {
            if (arriving(row, one, coins) != arriving(row, other, coins)) {
                return coins;
            }
        }
        return -2;
    }

    int tried(int what, int i, int j) {
        boolean such = what == 0 || what == 3 ? person(i) : what == 5 ? i >= 0 && i < world.parcels.size() : i == 0;
        if (what < 0 || what > 5 || !such || !person(j)) {
            return -1;
        }
        World other = fresh();
        for (Parcel parcel : world.parcels) {
            add(other, parcel.from, parcel.coins, parcel.hour);
        }
        other.otherwise = what;
        other.whose = i;
        while (other.hour < world.hour) {
            pass(other);
        }
        return other.purses[j];
    }

    int keep() {
        image = world.copy();
        return world.hour;
    }

    int again() {
        if (image == null) {
            return -1;
        }
        world = image.copy();
        return world.hour;
    }

    int count(int what) {
        switch (what) {
            case 0: return told.people.size();
            case 1: return world.parcels.size();
            case 2: return told.mays.size();
            case 3: return told.knots;
            case 4: return world.hour;
            case 5: return notes.size();
            case 6: return knownSize();
            case 7: return (int) world.parcels.stream().filter(parcel -> parcel.state == 1).count();
            case 8: return (int) world.parcels.stream().filter(parcel -> parcel.state == 2).count();
            case 9: return told.parcels.size();
            default: return -1;
        }
    }
}
