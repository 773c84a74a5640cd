/** Promise 26, and the values of E: law. */
public final class LawTest {
    private static final Check check = new Check();
    private static final long ERROR = Long.MIN_VALUE;

    public static void main(String[] args) {
        values();
        errors();
        names();
        wrongNames();
        check.same("none is told", Check.told("person a 1;may m 1;").law(1, 1, 1, 1, 1), ERROR);
        check.end();
    }

    private static void value(String text, long due) {
        check.same(text, Check.told("law " + text + ";").law(3, 40, 20, 5, 7), due);
    }

    private static void values() {
        value("7", 7);
        value("1-2-3", -4);
        value("2+3*4", 14);
        value("(2+3)*4", 20);
        value("100/7/2", 7);
        value("100/(7/2)", 33);
        value("100%7*3", 6);
        value("(0-7)/2", -3);
        value("(0-7)%2", -1);
        value("7/(0-2)", -3);
        value("7%(0-2)", 1);
        value("(0-1)/2", 0);
        value("2-3<0", 1);
        value("1<1", 0);
        value("1<=1", 1);
        value("2<=1", 0);
        value("1=1", 1);
        value("1=2", 0);
        value("1<>2", 1);
        value("1<>1", 0);
        value("1>=2", 0);
        value("2>=2", 1);
        value("2>1", 1);
        value("1>1", 0);
        value("1+1=2", 1);
        value("not 0", 1);
        value("not 5", 0);
        value("not not 5", 1);
        value("not 1=2", 1);
        value("not 0 and 0", 0);
        value("5 and 0-6", 1);
        value("5 and 0", 0);
        value("0 or 7", 1);
        value("0 or 0", 0);
        value("1 or 0 and 0", 1);
        value("(1 or 0)and 0", 0);
        value("0 and 0 or 1", 1);
        value("1 and 2=2", 1);
        value("(not 0)+(2>1)+(1 and 1)+(0 or 1)", 4);
    }

    private static void errors() {
        value("1/0", ERROR);
        value("1%0", ERROR);
        value("0/0", ERROR);
        value("1/(2-2)", ERROR);
        value("1000*1000*1000*1000", 1000000000000L);
        value("0-1000*1000*1000*1000", -1000000000000L);
        value("1000*1000*1000*1000+1", ERROR);
        value("0-1000*1000*1000*1000-1", ERROR);
        value("1000*1000*1000*1001", ERROR);
        value("(0-1000)*1000*1000*1001", ERROR);
        value("1000*1000*1000*1000*0", 0);
        value("1000*1000*1000*1000*1", 1000000000000L);
        value("1000*1000*1000*1000*(0-1)", -1000000000000L);
        value("(1000*1000*1000*1000)*(1000*1000*1000*1000)", ERROR);
        value("(1000*1000*1000*1000)*(0-1000*1000*1000*1000)", ERROR);
        value("9999*9999*9999", 999700029999L);
        value("9999*9999*9999*9999*9999*9999", ERROR);
        value("1 or 1/0", ERROR);
        value("0 and 1/0", ERROR);
        value("(1/0)*0", ERROR);
        value("not (1/0)", ERROR);
        value("1/0=1/0", ERROR);
        value("(1000*1000*1000*1000+1)*0", ERROR);
    }

    private static void names() {
        value("coins", 3);
        value("age", 40);
        value("next", 20);
        value("elder", 1);
        value("place", 5);
        value("hour", 7);
        value("coins+10*place+100*hour+1000*elder", 1753);
        HalfHands hands = Check.told("law elder*10+(age>next);");
        check.same("of one age", hands.law(0, 7, 7, 0, 0), 0);
        check.same("younger", hands.law(0, 7, 8, 0, 0), 0);
        check.same("older", hands.law(0, 8, 7, 0, 0), 11);
    }

    private static void wrongNames() {
        HalfHands hands = Check.told("law 1;");
        check.same("least", hands.law(0, 0, 0, 0, 0), 1);
        check.same("greatest", hands.law(9999, 99, 99, 9999, 9999), 1);
        check.same("coins -1", hands.law(-1, 0, 0, 0, 0), ERROR);
        check.same("coins 10000", hands.law(10000, 0, 0, 0, 0), ERROR);
        check.same("age -1", hands.law(0, -1, 0, 0, 0), ERROR);
        check.same("age 100", hands.law(0, 100, 0, 0, 0), ERROR);
        check.same("next -1", hands.law(0, 0, -1, 0, 0), ERROR);
        check.same("next 100", hands.law(0, 0, 100, 0, 0), ERROR);
        check.same("place -1", hands.law(0, 0, 0, -1, 0), ERROR);
        check.same("place 10000", hands.law(0, 0, 0, 10000, 0), ERROR);
        check.same("hour -1", hands.law(0, 0, 0, 0, -1), ERROR);
        check.same("hour 10000", hands.law(0, 0, 0, 0, 10000), ERROR);
    }
}
