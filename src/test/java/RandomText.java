import java.util.Random;

/** Texts made up from a seed: right ones, and ones with something changed. */
final class RandomText {
    private static final String[] NAMES = {"coins", "age", "next", "elder", "place", "hour"};
    private static final String[] PIECES = {"person", "purse", "hands", "to", "or", "parcel", "law", "may", "not",
        "and", "coins", "age", "next", "elder", "place", "hour", "a", "b", "zz", "abcdef", "abcdefg", "0", "1", "007",
        "99", "100", "999", "1000", "9999", "10000", "99999", "100000", "12345678901234567890", ";", "(", ")", "+",
        "-", "*", "/", "%", "<", "<=", "=", "<>", ">=", ">", "!", "A", "\t", "" + (char) 233, "\n", " "};

    private final Random random;
    private int knots;

    RandomText(Random random) {
        this.random = random;
    }

    private boolean chance(int percent) {
        return random.nextInt(100) < percent;
    }

    private String blank() {
        return chance(90) ? " " : chance(50) ? "\n" : " \n ";
    }

    /** A right text of at least some people. */
    String right(int fewest) {
        knots = 0;
        int people = fewest + random.nextInt(11 - fewest);
        StringBuilder text = new StringBuilder();
        for (int i = 0; i < people; i++) {
            int age = chance(30) ? 7 : random.nextInt(100);
            text.append("person").append(blank()).append(name(i)).append(blank()).append(age);
            if (chance(20)) {
                text.append(" purse ").append(random.nextInt(chance(20) ? 100000 : 100));
            }
            text.append(';');
        }
        for (int i = 0; i < people; i++) {
            if (chance(75)) {
                hands(text, i, people);
            }
        }
        int parcels = people == 0 ? 0 : random.nextInt(6);
        for (int i = 0; i < parcels; i++) {
            int coins = 1 + random.nextInt(chance(50) ? 60 : 99999);
            int hour = random.nextInt(chance(80) ? 10 : 1000);
            text.append("parcel ").append(name(random.nextInt(people))).append(' ').append(coins).append(' ')
                    .append(hour).append(';');
        }
        int mays = random.nextInt(4);
        for (int i = 0; i < mays; i++) {
            text.append("may ").append(name(i)).append(' ').append(either(2)).append(';');
        }
        if (chance(60)) {
            text.append("law ").append(either(2)).append(blank()).append(';');
        }
        return text.length() > 700 || knots > 64 ? right(fewest) : text.toString();
    }

    /** The name of a PERSON or a MAY. */
    static String name(int i) {
        return "" + (char) ('a' + i) + (i % 3 == 1 ? "x" : "");
    }

    private void hands(StringBuilder text, int giver, int people) {
        int wanted = 1 + random.nextInt(3);
        StringBuilder told = new StringBuilder();
        boolean[] taken = new boolean[people];
        for (int i = 0; i < wanted; i++) {
            int heir = random.nextInt(people);
            if (heir != giver && !taken[heir]) {
                taken[heir] = true;
                told.append(told.length() == 0 ? " to " : " or ").append(name(heir));
            }
        }
        if (told.length() > 0) {
            text.append("hands ").append(name(giver)).append(told).append(';');
        }
    }

    private String either(int depth) {
        return joined(both(depth), 15, "or", () -> both(depth));
    }

    private String both(int depth) {
        return joined(denied(depth), 15, "and", () -> denied(depth));
    }

    private String denied(int depth) {
        if (chance(10)) {
            knots++;
            return "not " + denied(depth);
        }
        String text = summed(depth);
        if (chance(30)) {
            knots++;
            String[] signs = {"<", "<=", "=", "<>", ">=", ">"};
            text += signs[random.nextInt(6)] + summed(depth);
        }
        return text;
    }

    private String summed(int depth) {
        return joined(multiplied(depth), 25, chance(50) ? "+" : "-", () -> multiplied(depth));
    }

    private String multiplied(int depth) {
        String[] signs = {"*", "/", "%", "%"};
        return joined(single(depth), 30, signs[random.nextInt(4)], () -> single(depth));
    }

    private interface Part {
        String text();
    }

    private String joined(String first, int percent, String sign, Part part) {
        StringBuilder text = new StringBuilder(first);
        while (chance(percent)) {
            knots++;
            text.append(chance(50) || sign.length() > 1 ? " " + sign + " " : sign).append(part.text());
        }
        return text.toString();
    }

    private String single(int depth) {
        if (depth > 0 && chance(20)) {
            return "(" + either(depth - 1) + ")";
        }
        knots++;
        if (chance(60)) {
            return NAMES[random.nextInt(6)];
        }
        return "" + random.nextInt(chance(80) ? 6 : 10000);
    }

    /** A text that may have faults: pieces are put in, left out or doubled. */
    String changed(String text) {
        StringBuilder other = new StringBuilder(text);
        int changes = 1 + random.nextInt(2);
        for (int i = 0; i < changes; i++) {
            int at = random.nextInt(other.length() + 1);
            int end = Math.min(other.length(), at + random.nextInt(8));
            switch (random.nextInt(4)) {
                case 0:
                    other.delete(at, end);
                    break;
                case 1:
                    other.insert(at, other.substring(at, end));
                    break;
                case 2:
                    other.insert(at, PIECES[random.nextInt(PIECES.length)]);
                    break;
                default:
                    other.insert(at, " " + PIECES[random.nextInt(PIECES.length)] + " ");
                    break;
            }
        }
        return other.length() > 700 ? other.substring(0, 700) : other.toString();
    }
}
