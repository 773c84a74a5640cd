/**
 * The edges of E (part 2 of the Terms) and of promise 26; above each method is the sentence of the document that it is
 * for.
 */
public final class EdgeLawTest {
    private static final Check check = new Check();
    private static final long ERROR = Long.MIN_VALUE;
    /** 10 to the 12. */
    private static final String TRILLION = "(1000*1000*1000*1000)";

    public static void main(String[] args) {
        values();
        beyondALong();
        below();
        byNought();
        cutTowardsNought();
        truth();
        bothSides();
        comparisons();
        elder();
        priorities();
        namesInBounds();
        noLaw();
        coinsToHandOn();
        olderWithoutALaw();
        notNought();
        errorGoesOn();
        place();
        hour();
        check.end();
    }

    private static void value(String text, long due) {
        check.same(text, Check.told("law " + text + ";").law(3, 40, 20, 5, 7), due);
    }

    /** "ERROR: .. a value above 10 to the 12": the value itself, and all values on the way to it. */
    private static void values() {
        value(TRILLION + "-1", 999999999999L);
        value(TRILLION, 1000000000000L);
        value(TRILLION + "+1", ERROR);
        value("1+" + TRILLION, ERROR);
        value(TRILLION + "+0", 1000000000000L);
        value(TRILLION + "*1", 1000000000000L);
        value(TRILLION + "*0", 0);
        value("0*" + TRILLION, 0);
        value(TRILLION + "*2", ERROR);
        value("2*" + TRILLION, ERROR);
        value(TRILLION + "/2*2", 1000000000000L);
        value(TRILLION + "/2*2+1", ERROR);
        value("(" + TRILLION + "+1)-1", ERROR);
        value("(" + TRILLION + "+1)*0", ERROR);
        value(TRILLION + "*10/10", ERROR);
        value(TRILLION + "*" + TRILLION, ERROR);
        value(TRILLION + "*" + TRILLION + "/" + TRILLION, ERROR);
        value(TRILLION + "-(0-1)", ERROR);
        value(TRILLION + "+" + TRILLION + "-" + TRILLION, ERROR);
        value(TRILLION + ">=" + TRILLION, 1);
        value("not " + TRILLION, 0);
        value("not (" + TRILLION + "+1)", ERROR);
    }

    /** "VALUES are longs": a product that a long can't hold is an ERROR, too, whatever the long would hold then. */
    private static void beyondALong() {
        String power = "(4096*1024*1024)";
        String least = "(0-4096*1024*1024)";
        value(power, 4294967296L);
        // of 2 to the 64 a long would hold 0
        value(power + "*" + power, ERROR);
        value(power + "*" + least, ERROR);
        value(least + "*" + power, ERROR);
        value(least + "*" + least, ERROR);
        value(power + "*(2*4096*1024*1024)", ERROR);
        value(power + "*" + power + "=0", ERROR);
        // 2 to the 64 less 1 would be -1
        value("(4096*1024*1024-1)*(4096*1024*1024+1)", ERROR);
        value("(1-4096*1024*1024)*(4096*1024*1024+1)", ERROR);
    }

    /** "or below 0 by more than that". */
    private static void below() {
        String least = "(0-" + TRILLION + ")";
        value("1-" + TRILLION, -999999999999L);
        value(least, -1000000000000L);
        value(least + "-1", ERROR);
        value("0-1-" + TRILLION, ERROR);
        value(least + "+0", -1000000000000L);
        value(least + "*1", -1000000000000L);
        value(least + "*(0-1)", 1000000000000L);
        value(least + "*(0-2)", ERROR);
        value(least + "*2", ERROR);
        value("2*" + least, ERROR);
        value(TRILLION + "*(0-1)", -1000000000000L);
        value(TRILLION + "*(0-2)", ERROR);
        value(least + "*" + least, ERROR);
        value(least + "*" + TRILLION, ERROR);
        value(least + "/(0-1)", 1000000000000L);
        value("(" + least + "-1)*0", ERROR);
        value(least + "-" + TRILLION + "+" + TRILLION, ERROR);
    }

    /** "ERROR: / or % by 0". */
    private static void byNought() {
        for (String sign : new String[] {"/", "%"}) {
            value("1" + sign + "0", ERROR);
            value("0" + sign + "0", ERROR);
            value("1" + sign + "(1-1)", ERROR);
            value("1" + sign + "(1=2)", ERROR);
            value("1" + sign + "(not 1)", ERROR);
            value("(0-1)" + sign + "0", ERROR);
            value("1" + sign + "0*0", ERROR);
            value("0*(1" + sign + "0)", ERROR);
            value("1+(1" + sign + "0)", ERROR);
            value("(1" + sign + "0)-(1" + sign + "0)", ERROR);
            value("0" + sign + "1", 0);
            value("0" + sign + "(0-1)", 0);
        }
        value("1/1", 1);
        value("1%1", 0);
        value("1/(0-1)", -1);
        value("1%(0-1)", 0);
    }

    /** "/ is cut towards 0, % is what is left by it". */
    private static void cutTowardsNought() {
        long[] due = {-2, -1, -1, -1, 0, 0, 0, 0, 0, 1, 1, 1, 2};
        long[] left = {0, -2, -1, 0, -2, -1, 0, 1, 2, 0, 1, 2, 0};
        for (int n = -6; n <= 6; n++) {
            String number = n < 0 ? "(0-" + -n + ")" : "" + n;
            value(number + "/3", due[n + 6]);
            value(number + "%3", left[n + 6]);
            value(number + "/(0-3)", -due[n + 6]);
            value(number + "%(0-3)", left[n + 6]);
        }
    }

    /** "comparisons, and, or, not are 1 or 0 (what isn't 0 is as 1 ..)". */
    private static void truth() {
        String[] numbers = {"0", "1", "2", "(0-1)", "(0-2)", TRILLION};
        for (String one : numbers) {
            boolean isOne = !one.equals("0");
            value("not " + one, isOne ? 0 : 1);
            value("not not " + one, isOne ? 1 : 0);
            for (String other : numbers) {
                boolean isOther = !other.equals("0");
                value(one + " and " + other, isOne && isOther ? 1 : 0);
                value(one + " or " + other, isOne || isOther ? 1 : 0);
            }
        }
    }

    /** "both sides are worked out": an ERROR on either side is one of the whole. */
    private static void bothSides() {
        for (String joint : new String[] {" and ", " or ", "<", "<=", "=", "<>", ">=", ">", "+", "-", "*", "/", "%"}) {
            for (String number : new String[] {"0", "1", "2"}) {
                value("(" + number + ")" + joint + "(1/0)", ERROR);
                value("(1/0)" + joint + "(" + number + ")", ERROR);
                value("(1%0)" + joint + "(" + number + ")", ERROR);
            }
        }
        value("1 or 1 or 1/0", ERROR);
        value("0 and 0 and 1/0", ERROR);
        value("1 or 0 and 1/0", ERROR);
    }

    /** The comparisons one step to each side. */
    private static void comparisons() {
        String[] signs = {"<", "<=", "=", "<>", ">=", ">"};
        int[][] due = {{1, 0, 0}, {1, 1, 0}, {0, 1, 0}, {1, 0, 1}, {0, 1, 1}, {0, 0, 1}};
        for (int i = 0; i < signs.length; i++) {
            for (int n = 4; n <= 6; n++) {
                value(n + signs[i] + "5", due[i][n - 4]);
                value("0-5" + signs[i] + "0-" + n, due[i][n - 4]);
                value(TRILLION + "-1-5+" + n + signs[i] + TRILLION + "-1", due[i][n - 4]);
            }
        }
    }

    /** "elder: 1, if his is more". */
    private static void elder() {
        HalfHands hands = Check.told("law elder;");
        check.same("one less", hands.law(0, 49, 50, 0, 0), 0);
        check.same("of one age", hands.law(0, 50, 50, 0, 0), 0);
        check.same("one more", hands.law(0, 51, 50, 0, 0), 1);
        check.same("0, 0", hands.law(0, 0, 0, 0, 0), 0);
        check.same("99, 99", hands.law(0, 99, 99, 0, 0), 0);
        check.same("99, 0", hands.law(0, 99, 0, 0, 0), 1);
        check.same("0, 99", hands.law(0, 0, 99, 0, 0), 0);
    }

    /** "E: A { or A }. A: B { and B }. B: not B | C. C: S [ .. S ]. S: T { .. T }. T: P { .. P }." */
    private static void priorities() {
        value("1 or 0 and 0", 1);
        value("0 and 0 or 1", 1);
        value("not 0 or 1", 1);
        value("not 1 and 0", 0);
        value("not (1 and 0)", 1);
        value("not 2=3", 1);
        value("not 0+1", 0);
        value("3-2<2-0", 1);
        value("1+2*3", 7);
        value("2*3+1", 7);
        value("7-2-1", 4);
        value("7-(2-1)", 6);
        value("64/8/2", 4);
        value("64/(8/2)", 16);
        value("64%9*2", 2);
        value("2*64%9", 2);
        value("2*(64%9)", 2);
        value("9-4%3", 8);
    }

    /** Promise 26: "by these NAMES (coins, place, hour 0 .. 9999; age, next 0 .. 99)". */
    private static void namesInBounds() {
        HalfHands hands = Check.told("law coins+age+next+place+hour;");
        check.bounds("coins", 0, 9999, ERROR, coins -> hands.law(coins, 1, 1, 1, 1));
        check.bounds("age", 0, 99, ERROR, age -> hands.law(1, age, 1, 1, 1));
        check.bounds("next", 0, 99, ERROR, next -> hands.law(1, 1, next, 1, 1));
        check.bounds("place", 0, 9999, ERROR, place -> hands.law(1, 1, 1, place, 1));
        check.bounds("hour", 0, 9999, ERROR, hour -> hands.law(1, 1, 1, 1, hour));
        check.same("all least", hands.law(0, 0, 0, 0, 0), 0);
        check.same("all greatest", hands.law(9999, 99, 99, 9999, 9999), 30195);
        check.same("coins", Check.told("law coins;").law(9999, 98, 97, 9996, 9995), 9999);
        check.same("age", Check.told("law age;").law(9999, 98, 97, 9996, 9995), 98);
        check.same("next", Check.told("law next;").law(9999, 98, 97, 9996, 9995), 97);
        check.same("place", Check.told("law place;").law(9999, 98, 97, 9996, 9995), 9996);
        check.same("hour", Check.told("law hour;").law(9999, 98, 97, 9996, 9995), 9995);
        check.same("a wrong name that isn't told", Check.told("law 1;").law(1, 100, 1, 1, 1), ERROR);
    }

    /** Promise 26: "Long.MIN_VALUE: an ERROR, none is told, no such ones." */
    private static void noLaw() {
        check.same("an ERROR", Check.told("law 1/coins;").law(0, 0, 0, 0, 0), ERROR);
        check.same("no ERROR", Check.told("law 1/coins;").law(1, 0, 0, 0, 0), 1);
        check.same("none is told", Check.told("person a 1;may m 1;").law(1, 1, 1, 1, 1), ERROR);
        check.same("no TEXT", new HalfHands().law(1, 1, 1, 1, 1), ERROR);
        HalfHands hands = Check.told("law 5;");
        check.same("it is told", hands.law(1, 1, 1, 1, 1), 5);
        Check.tell(hands, "may m 1;");
        check.same("no longer", hands.law(1, 1, 1, 1, 1), ERROR);
        Check.tell(hands, "may m 1;law 0;may n 2;");
        check.same("between two MAY", hands.law(1, 1, 1, 1, 1), 0);
    }

    private static int kept(String law, int coins, int age, int next) {
        HalfHands hands = Check.told("person a 1;person b " + age + ";person c " + next + ";" + law);
        return hands.keeps(3, 0x210, coins, 1);
    }

    /** "who gets c coins to hand on keeps c by 2, cut, and, if c is odd, the odd one too, if ..". */
    private static void coinsToHandOn() {
        int[] coins = {0, 1, 2, 3, 4, 5, 999998, 999999};
        for (int c : coins) {
            check.same("stays of " + c, kept("law 1;", c, 1, 1), c - c / 2);
            check.same("goes of " + c, kept("law 0;", c, 1, 1), c / 2);
        }
    }

    /** "(without a law: if he is older than the one to whom he hands ..)". */
    private static void olderWithoutALaw() {
        check.same("one older", kept("", 7, 51, 50), 4);
        check.same("of one age", kept("", 7, 50, 50), 3);
        check.same("one younger", kept("", 7, 49, 50), 3);
        check.same("99 to 98", kept("", 7, 99, 98), 4);
        check.same("0 to 0", kept("", 7, 0, 0), 3);
        check.same("1 to 0", kept("", 7, 1, 0), 4);
        check.same("a MAY is no law", kept("may m 1;", 7, 0, 0), 3);
    }

    /** "if the law's E isn't 0". */
    private static void notNought() {
        check.same("0", kept("law 0;", 7, 1, 1), 3);
        check.same("1", kept("law 1;", 7, 1, 1), 4);
        check.same("-1", kept("law 0-1;", 7, 1, 1), 4);
        check.same("2", kept("law 2;", 7, 1, 1), 4);
        check.same("the greatest", kept("law " + TRILLION + ";", 7, 1, 1), 4);
        check.same("the least", kept("law 0-" + TRILLION + ";", 7, 1, 1), 4);
        check.same("4294967296", kept("law 4096*1024*1024;", 7, 1, 1), 4);
    }

    /** "with an ERROR it goes on". */
    private static void errorGoesOn() {
        check.same("above", kept("law " + TRILLION + "+1;", 7, 9, 1), 3);
        check.same("below", kept("law 0-" + TRILLION + "-1;", 7, 9, 1), 3);
        check.same("/ 0", kept("law 1/0;", 7, 9, 1), 3);
        check.same("% 0", kept("law 1%0;", 7, 9, 1), 3);
        check.same("in one side", kept("law 1 or 1/0;", 7, 9, 1), 3);
        check.same("an even number is halved all the same", kept("law 1/0;", 8, 9, 1), 4);
    }

    /** "place: the how manieth hand it is in (1 up)", of a ROW that of the first CARRIER is 1. */
    private static void place() {
        long row = 0x9876543210L;
        for (int place = 0; place <= 9; place++) {
            HalfHands hands = Check.told(Check.people(10) + "law place=" + place + ";");
            int left = 999999;
            for (int k = 1; k <= 8; k++) {
                int due = left % 2 != 0 && k == place ? left / 2 + 1 : left / 2;
                check.same("place " + place + ", CARRIER " + k, hands.keeps(10, row, 999999, k), due);
                left -= due;
            }
        }
    }

    /** "hour: the HOUR (0 in a ROW)". */
    private static void hour() {
        HalfHands hands = Check.told("person a 1;person b 9;person c 1;law hour=0;");
        check.same("at first", hands.arrives(3, 0x210, 7), 3);
        hands.hours(1);
        check.same("at another HOUR", hands.arrives(3, 0x210, 7), 3);
        check.same("1", Check.told("person a 1;person b 9;person c 1;law hour=1;").arrives(3, 0x210, 7), 4);
        for (int hour = 0; hour <= 4; hour++) {
            HalfHands run = Check.told("person a 1;person b 1;person c 1;hands a to b;hands b to c;parcel a 7 1;"
                    + "law hour=" + hour + ";");
            run.hours(3);
            check.same("it comes in HOUR 2, law " + hour, run.look(1, 1), hour == 2 ? 4 : 3);
        }
    }
}
