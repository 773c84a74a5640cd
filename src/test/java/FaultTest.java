/** Promises 3 and 4: what may stand in a TEXT, and the first FAULT along it. */
public final class FaultTest {
    private static final Check check = new Check();
    private static final String AB = "person a 1;person b 2;";
    private static final String NINE = "person a 1;person b 1;person c 1;person d 1;person e 1;person f 1;person g 1;"
            + "person h 1;person i 1;";

    public static void main(String[] args) {
        rightTexts();
        tokens();
        misplaced();
        numbers();
        tooMany();
        toldAlready();
        notTold();
        firstAndLeast();
        expressions();
        knotsAndBrackets();
        check.end();
    }

    private static void rightTexts() {
        check.faultless("", 0);
        check.faultless(" \n \n", 0);
        check.faultless("\nperson\na\n1\n;", 1);
        check.faultless("person a 0 purse 0;person b 99 purse 99999;", 2);
        check.faultless("person a 1purse 2;", 1);
        check.faultless("person a1;", 1);
        check.faultless("person abcdef 0000000000000000000000000000000099;", 1);
        check.faultless(AB + "person c 3;person d 4;hands a to b or c or d;hands b to a;", 6);
        check.faultless(AB + "parcel a 1 0;parcel b 99999 999;parcel a 1 0;", 5);
        check.faultless("may a 1;law 0;may b 0;person a 1;", 4);
        check.faultless("law(coins);", 1);
        check.faultless("law 9999;", 1);
        check.faultless("person pers 1;person persona 1;".replace("persona", "ors"), 2);
    }

    private static void tokens() {
        check.faulty("!", 1, 0);
        check.faulty("\t", 1, 0);
        check.faulty("person A 1;", 1, 7);
        check.faulty("person abcdefg 1;", 1, 7);
        check.faulty("persons a 1;", 1, 0);
        check.faulty("personn a 1;", 1, 0);
        check.faulty("law coinsx;", 1, 4);
        check.faulty("law coinsxy;", 1, 4);
        check.faulty("person a 1;" + (char) 13, 1, 11);
        check.faulty("person a 1" + (char) 160 + ";", 1, 10);
        check.faulty("person a 1;" + (char) 0, 1, 11);
    }

    private static void misplaced() {
        check.faulty(";", 1, 0);
        check.faulty("person a 1;;", 1, 11);
        check.faulty("a", 1, 0);
        check.faulty("1", 1, 0);
        check.faulty("purse 1;", 1, 0);
        check.faulty("person", 1, 6);
        check.faulty("person  \n", 1, 9);
        check.faulty("person 1 1;", 1, 7);
        check.faulty("person a", 1, 8);
        check.faulty("person a b;", 1, 9);
        check.faulty("person a 1", 1, 10);
        check.faulty("person a 1 1;", 1, 11);
        check.faulty("person a 1 purse;", 1, 16);
        check.faulty("person a 1 purse a;", 1, 17);
        check.faulty("person a 1 purse 1 purse 1;", 1, 19);
        for (String word : new String[] {"person", "purse", "hands", "to", "or", "parcel", "law", "may", "not", "and",
            "coins", "age", "next", "elder", "place", "hour"}) {
            check.faulty("person " + word + " 1;", 1, 7);
            check.faulty("may " + word + " 1;", 1, 4);
            check.faulty("hands " + word + " to a;", 1, 6);
        }
        check.faulty(AB + "hands a b;", 1, 30);
        check.faulty(AB + "hands a to;", 1, 32);
        check.faulty(AB + "hands a to b b;", 1, 35);
        check.faulty(AB + "hands a to b or;", 1, 37);
        check.faulty(AB + "hands a to b", 1, 34);
        check.faulty(AB + "hands 1 to b;", 1, 28);
        check.faulty(AB + "parcel a 1;", 1, 32);
        check.faulty(AB + "parcel a 1 1 1;", 1, 35);
        check.faulty(AB + "parcel 1 1 1;", 1, 29);
        check.faulty("law", 1, 3);
        check.faulty("law;", 1, 3);
        check.faulty("may m", 1, 5);
        check.faulty("may 1 1;", 1, 4);
        check.faulty("law 1 law 1;", 1, 6);
    }

    private static void numbers() {
        check.faulty("person a 100;", 2, 9);
        check.faulty("person a 99999999999999999999999999;", 2, 9);
        check.faulty("person a 4294967296;", 2, 9);
        check.faulty("person a 1 purse 100000;", 2, 17);
        check.faulty(AB + "parcel a 0 1;", 2, 31);
        check.faulty(AB + "parcel a 100000 1;", 2, 31);
        check.faulty(AB + "parcel a 1 1000;", 2, 33);
        check.faulty("law 10000;", 2, 4);
        check.faulty("may m 1+10000;", 2, 8);
    }

    private static void tooMany() {
        check.faultless(NINE + "person j 1;", 10);
        check.faulty(NINE + "person j 1;person k 1;", 2, 110);
        check.faulty(NINE + "person j 1; person", 2, 111);
        StringBuilder parcels = new StringBuilder("person a 1;");
        for (int i = 0; i < 12; i++) {
            parcels.append("parcel a 1 0;");
        }
        check.faultless(parcels.toString(), 13);
        check.faulty(parcels + "parcel q 1 0;", 2, 167);
        String mays = "may a 1;may b 1;may c 1;may d 1;";
        check.faultless(mays, 4);
        check.faulty(mays + "may a 1;", 2, 32);
        check.faulty(NINE + "hands a to b or c or d or e;", 2, 125);
        check.faulty(NINE + "hands a to b or c or d or b;", 2, 125);
        check.faulty(NINE + "hands a to b or c or d or q;", 2, 125);
        check.faulty(NINE + "hands a to b or c or d or a;", 2, 125);
        check.faulty(NINE + "hands a to b or c or d or 5;", 1, 125);
        check.faulty(NINE + "hands a to b or c or d or or;", 1, 125);
        check.faulty(NINE + "hands a to b or c or d or", 1, 124);
    }

    private static void toldAlready() {
        check.faulty("person a 1;person a 2;", 3, 18);
        check.faulty("person abcdef 1;person b 2;person abcdef 2;", 3, 34);
        check.faultless("person a 1;may a 1;", 2);
        check.faulty("may a 1;may b 2;may a 3;", 3, 20);
        check.faulty(AB + "hands a to b;hands a to b;", 3, 41);
        check.faulty(AB + "hands a to b or b;", 3, 38);
        check.faulty(AB + "person c 3;hands a to b or c or b;", 3, 54);
        check.faulty("law 1;law 1;", 3, 6);
        check.faulty("law 1; law", 3, 7);
    }

    private static void notTold() {
        check.faulty("hands a to b;", 4, 6);
        check.faulty("person a 1;hands a to b;person b 1;", 4, 22);
        check.faulty(AB + "hands a to b or c;", 4, 38);
        check.faulty("parcel a 1 0;person a 1;", 4, 7);
        check.faulty("may a 1;parcel a 1 0;", 4, 15);
        check.faulty(AB + "hands a to a;", 5, 33);
        check.faulty(AB + "hands a to b or a;", 5, 38);
    }

    private static void firstAndLeast() {
        check.faulty("person a 100!", 2, 9);
        check.faulty("person a 1;person a 100;!", 3, 18);
        check.faulty("hands q to q 5", 4, 6);
        check.faulty("person a 1;parcel b 0 1000;", 4, 18);
        check.faulty("person a 1;parcel a 0 1000;", 2, 20);
        check.faulty("person a 1 person b 100;", 1, 11);
    }

    private static void expressions() {
        check.faulty("law a;", 1, 4);
        check.faulty("law person;", 1, 4);
        check.faulty("law ();", 1, 5);
        check.faulty("law (1;", 1, 6);
        check.faulty("law 1);", 1, 5);
        check.faulty("law (1", 1, 6);
        check.faulty("law 1+;", 1, 6);
        check.faulty("law -1;", 1, 4);
        check.faulty("law +1;", 1, 4);
        check.faulty("law 1 1;", 1, 6);
        check.faulty("law 1 not 1;", 1, 6);
        check.faulty("law 1+not 1;", 1, 6);
        check.faulty("law 1=not 1;", 1, 6);
        check.faulty("law not;", 1, 7);
        check.faulty("law 1 and;", 1, 9);
        check.faulty("law or 1;", 1, 4);
        check.faulty("law 1<2<3;", 1, 7);
        check.faulty("law 1=2=3;", 1, 7);
        check.faulty("law 1==2;", 1, 6);
        check.faulty("law 1=<2;", 1, 6);
        check.faulty("law 1=>2;", 1, 6);
        check.faulty("law 1><2;", 1, 6);
        check.faulty("law 1< =2;", 1, 7);
        check.faulty("law 1< >2;", 1, 7);
        check.faulty("law 1> =2;", 1, 7);
        check.faulty("law 1<>=2;", 1, 7);
        check.faulty("law 1<==2;", 1, 7);
        check.faulty("law 1*/2;", 1, 6);
        check.faultless("law (1<2)<3 and not not (not 1)or 2;", 1);
        check.faultless("law 1<=2 and 1>=2 and 1<>2 and 1<2 and 1>2 and 1=2;", 1);
        check.faultless("law ((((((((1))))))));", 1);
    }

    private static void knotsAndBrackets() {
        check.faulty("law (((((((((1)))))))));", 2, 12);
        check.faultless("law (((1)))+((((((((2))))))))-(1);", 1);
        check.faulty("law 1+((((((((1+(2))))))));", 2, 16);
        StringBuilder sum = new StringBuilder("law 1");
        for (int i = 0; i < 31; i++) {
            sum.append("+1");
        }
        check.faultless(sum + ";", 1);
        check.same("63 knots", Check.told(sum + ";").count(3), 63);
        check.same("64 knots", Check.told(sum + ";may m 1;").count(3), 64);
        check.faulty(sum + "+1;", 2, 68);
        check.faulty(sum + ";may m 1;may n 2;", 2, 82);
        check.faulty(sum + ";may m not 1;", 2, 78);
        check.faulty(sum + ";may m 1+1;", 2, 75);
        check.faulty(sum + ";may m 1 or 1;", 2, 76);
        check.faulty(sum + ";may m 1<=1;", 2, 75);
        check.faulty(sum + ";may m 1;may n 10000;", 2, 82);
        check.faulty(sum + ";may m 1;may n a;", 1, 82);
        check.faulty(sum + ";may m 1;may n;", 1, 81);
        StringBuilder nots = new StringBuilder("law ");
        for (int i = 0; i < 64; i++) {
            nots.append("not ");
        }
        check.faulty(nots + "1;", 2, 260);
        check.faultless(nots.substring(0, 4 + 63 * 4) + "1;", 1);
    }
}
