import java.math.BigInteger;
import java.util.ArrayList;
import java.util.Arrays;
import java.util.List;
import java.util.regex.Matcher;
import java.util.regex.Pattern;

/** Reads a text in another way than the program: all tokens first, trees for E, an exception for a fault. */
final class OracleText {
    static final class Fault extends RuntimeException {
        private static final long serialVersionUID = 1;
        final int kind;
        final int place;

        Fault(int kind, int place) {
            super("fault " + kind + " at " + place);
            this.kind = kind;
            this.place = place;
        }
    }

    /** A tree of E. */
    static final class Tree {
        final String sign;
        final List<Tree> parts;

        Tree(String sign, Tree... parts) {
            this.sign = sign;
            this.parts = Arrays.asList(parts);
        }

        /** What it is by the NAMES; null with an ERROR. */
        BigInteger value(int coins, int age, int next, int place, int hour) {
            List<BigInteger> values = new ArrayList<>();
            for (Tree part : parts) {
                values.add(part.value(coins, age, next, place, hour));
            }
            if (values.contains(null)) {
                return null;
            }
            BigInteger result = joined(values, coins, age, next, place, hour);
            BigInteger most = BigInteger.TEN.pow(12);
            return result == null || result.abs().compareTo(most) > 0 ? null : result;
        }

        private BigInteger joined(List<BigInteger> values, int coins, int age, int next, int place, int hour) {
            if (values.isEmpty()) {
                switch (sign) {
                    case "coins": return BigInteger.valueOf(coins);
                    case "age": return BigInteger.valueOf(age);
                    case "next": return BigInteger.valueOf(next);
                    case "elder": return bit(age > next);
                    case "place": return BigInteger.valueOf(place);
                    case "hour": return BigInteger.valueOf(hour);
                    default: return new BigInteger(sign);
                }
            }
            BigInteger a = values.get(0);
            if (sign.equals("not")) {
                return bit(a.signum() == 0);
            }
            BigInteger b = values.get(1);
            int c = a.compareTo(b);
            switch (sign) {
                case "+": return a.add(b);
                case "-": return a.subtract(b);
                case "*": return a.multiply(b);
                case "/": return b.signum() == 0 ? null : a.divide(b);
                case "%": return b.signum() == 0 ? null : a.remainder(b);
                case "and": return bit(a.signum() != 0 && b.signum() != 0);
                case "or": return bit(a.signum() != 0 || b.signum() != 0);
                case "<": return bit(c < 0);
                case "<=": return bit(c <= 0);
                case "=": return bit(c == 0);
                case "<>": return bit(c != 0);
                case ">=": return bit(c >= 0);
                default: return bit(c > 0);
            }
        }

        private static BigInteger bit(boolean holds) {
            return holds ? BigInteger.ONE : BigInteger.ZERO;
        }
    }

    static final class Person {
        String name;
        int age;
        int purse;
        final List<Integer> heirs = new ArrayList<>();
    }

    static final class Parcel {
        int from;
        int coins;
        int hour;
    }

    private static final List<String> LANGUAGE = Arrays.asList("person", "purse", "hands", "to", "or", "parcel",
            "law", "may", "not", "and", "coins", "age", "next", "elder", "place", "hour");
    private static final List<String> NAMES = Arrays.asList("coins", "age", "next", "elder", "place", "hour");
    private static final Pattern TOKEN = Pattern.compile("[a-z]+|[0-9]+|<=|>=|<>|[;()+*/%<=>-]|[\\n ]+|(?s).");

    final List<Person> people = new ArrayList<>();
    final List<Parcel> parcels = new ArrayList<>();
    final List<String> mayNames = new ArrayList<>();
    final List<Tree> mays = new ArrayList<>();
    Tree law;
    int lines;
    int knots;

    private final List<String> tokens = new ArrayList<>();
    private final List<Integer> places = new ArrayList<>();
    private int at;
    private int open;

    OracleText(String text) {
        Matcher matcher = TOKEN.matcher(text);
        while (matcher.find()) {
            char first = matcher.group().charAt(0);
            if (first != ' ' && first != '\n') {
                tokens.add(matcher.group());
                places.add(matcher.start());
            }
        }
        tokens.add("");
        places.add(text.length());
        while (at < tokens.size() - 1) {
            line();
            need(";");
            lines++;
        }
    }

    private String token() {
        return tokens.get(at);
    }

    private Fault fault(int kind) {
        return new Fault(kind, places.get(at));
    }

    private void need(String what) {
        if (!token().equals(what)) {
            throw fault(1);
        }
        at++;
    }

    private void line() {
        switch (token()) {
            case "person":
                most(people.size(), 10);
                at++;
                Person person = new Person();
                person.name = word();
                if (find(person.name) >= 0) {
                    throw fault(3);
                }
                at++;
                person.age = number(0, 99);
                if (token().equals("purse")) {
                    at++;
                    person.purse = number(0, 99999);
                }
                people.add(person);
                break;
            case "hands":
                at++;
                hands();
                break;
            case "parcel":
                most(parcels.size(), 12);
                at++;
                Parcel parcel = new Parcel();
                parcel.from = told();
                at++;
                parcel.coins = number(1, 99999);
                parcel.hour = number(0, 999);
                parcels.add(parcel);
                break;
            case "law":
                if (law != null) {
                    throw fault(3);
                }
                at++;
                law = either();
                break;
            case "may":
                most(mays.size(), 4);
                at++;
                String name = word();
                if (mayNames.contains(name)) {
                    throw fault(3);
                }
                at++;
                mayNames.add(name);
                mays.add(either());
                break;
            default:
                throw fault(1);
        }
    }

    private void most(int size, int most) {
        if (size == most) {
            throw fault(2);
        }
    }

    private String word() {
        if (!token().matches("[a-z]{1,6}") || LANGUAGE.contains(token())) {
            throw fault(1);
        }
        return token();
    }

    private int find(String name) {
        for (int i = 0; i < people.size(); i++) {
            if (people.get(i).name.equals(name)) {
                return i;
            }
        }
        return -1;
    }

    private int told() {
        int person = find(word());
        if (person < 0) {
            throw fault(4);
        }
        return person;
    }

    private int number(int low, int high) {
        if (!token().matches("[0-9]+")) {
            throw fault(1);
        }
        BigInteger number = new BigInteger(token());
        if (number.compareTo(BigInteger.valueOf(low)) < 0 || number.compareTo(BigInteger.valueOf(high)) > 0) {
            throw fault(2);
        }
        at++;
        return number.intValue();
    }

    private void hands() {
        int giver = told();
        List<Integer> heirs = people.get(giver).heirs;
        if (!heirs.isEmpty()) {
            throw fault(3);
        }
        at++;
        need("to");
        heir(giver, heirs);
        while (token().equals("or")) {
            at++;
            heir(giver, heirs);
        }
    }

    private void heir(int giver, List<Integer> heirs) {
        word();
        most(heirs.size(), 3);
        int heir = told();
        if (heirs.contains(heir)) {
            throw fault(3);
        }
        if (heir == giver) {
            throw fault(5);
        }
        heirs.add(heir);
        at++;
    }

    private String knot() {
        knots++;
        if (knots > 64) {
            throw fault(2);
        }
        return tokens.get(at++);
    }

    private Tree either() {
        Tree tree = both();
        while (token().equals("or")) {
            tree = new Tree(knot(), tree, both());
        }
        return tree;
    }

    private Tree both() {
        Tree tree = denied();
        while (token().equals("and")) {
            tree = new Tree(knot(), tree, denied());
        }
        return tree;
    }

    private Tree denied() {
        return token().equals("not") ? new Tree(knot(), denied()) : compared();
    }

    private Tree compared() {
        Tree tree = summed();
        return token().matches("<|<=|=|<>|>=|>") ? new Tree(knot(), tree, summed()) : tree;
    }

    private Tree summed() {
        Tree tree = multiplied();
        while (token().matches("[+-]")) {
            tree = new Tree(knot(), tree, multiplied());
        }
        return tree;
    }

    private Tree multiplied() {
        Tree tree = single();
        while (token().matches("[*/%]")) {
            tree = new Tree(knot(), tree, single());
        }
        return tree;
    }

    private Tree single() {
        if (token().equals("(")) {
            most(open, 8);
            at++;
            open++;
            Tree tree = either();
            need(")");
            open--;
            return tree;
        }
        if (NAMES.contains(token())) {
            return new Tree(knot());
        }
        number(0, 9999);
        at--;
        return new Tree(knot());
    }
}
