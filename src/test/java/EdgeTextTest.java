/**
 * The edges of texts: each method is for one sentence of the document's part 1 (Terms) or of promises 1 to 5, which
 * stands above it.
 */
public final class EdgeTextTest {
    private static final Check check = new Check();
    private static final String AB = "person a 1;person b 2;";
    /** 63 KNOTS. */
    private static final String SUM = "law 1" + Check.times(31, "+1");
    private static final String[] LANGUAGE = {"person", "purse", "hands", "to", "or", "parcel", "law", "may", "not",
        "and", "coins", "age", "next", "elder", "place", "hour"};

    public static void main(String[] args) {
        lettersOfWords();
        wordsOfTheLanguage();
        lettersInARow();
        digits();
        blanks();
        bytesThatAreNoTokens();
        signs();
        numbersOfE();
        ages();
        purses();
        people();
        toWhomOneHands();
        parcels();
        coinsOfParcels();
        hoursOfParcels();
        mays();
        names();
        oncePerPerson();
        oncePerHeir();
        oneLaw();
        toldAhead();
        toItself();
        openBrackets();
        knots();
        knotsOfEachKind();
        theLength();
        whatCannotStandThere();
        firstAlongTheText();
        ofOnePlaceTheLeast();
        check.end();
    }

    /** "W: one of 1 .. 6 letters"; "a TOKEN that is none (a word of more than 6 letters, too)". */
    private static void lettersOfWords() {
        check.faultless("person z 1;person zy 1;person zyxwv 1;person zyxwvu 1;", 4);
        check.marked(1, "person ^zyxwvut 1;");
        check.faulty("person " + Check.times(600, "z") + " 1;", 1, 7);
        check.faultless("may z 1;may zyxwv 1;may zyxwvu 1;", 3);
        check.marked(1, "may ^zyxwvut 1;");
        String six = "person abcdef 1;person ghijkl 2;";
        check.faultless(six + "hands abcdef to ghijkl;parcel abcdef 1 0;", 4);
        check.marked(1, six + "hands ^abcdefg to ghijkl;");
        check.marked(1, six + "hands abcdef to ^ghijklm;");
        check.marked(1, six + "parcel ^abcdefg 1 0;");
        check.marked(1, "hands ^abcdefg to a;");
        check.marked(4, "hands ^abcdef to a;");
        check.marked(1, "person a 1;^abcdef");
        check.marked(1, "person a 1;^abcdefg");
        check.marked(1, "person ^1;");
    }

    /** "none of those of the language". */
    private static void wordsOfTheLanguage() {
        for (String word : LANGUAGE) {
            check.faulty("person " + word + " 1;", 1, 7);
            check.faulty("may " + word + " 1;", 1, 4);
            check.faulty(AB + "hands " + word + " to b;", 1, 28);
            check.faulty(AB + "hands a to " + word + ";", 1, 33);
            check.faulty(AB + "hands a to b or " + word + ";", 1, 38);
            check.faulty(AB + "parcel " + word + " 1 0;", 1, 29);
            String less = word.substring(0, word.length() - 1);
            check.faultless("person " + less + " 1;may " + less + " 1;parcel " + less + " 1 0;", 3);
            String more = word + "s";
            if (more.length() > 6) {
                check.faulty("person " + more + " 1;", 1, 7);
            } else {
                check.faultless("person " + more + " 1;may " + more + " 1;parcel " + more + " 1 0;", 3);
            }
        }
    }

    /** "Words: small letters in a row". */
    private static void lettersInARow() {
        check.faultless("person a1;", 1);
        check.faultless("person az 1purse 1;", 1);
        check.marked(1, "^per son a 1;");
        check.marked(1, "person\na\n^b\n1;");
        check.marked(1, "^persona 1;");
        check.marked(1, "person^`a 1;");
        check.marked(1, "person a^{ 1;");
        check.marked(1, "person ^@ 1;");
        check.marked(1, "person ^A 1;");
        check.marked(1, "person ^Z 1;");
        check.marked(1, "person ^[ 1;");
        check.marked(1, "person a^B 1;");
        check.marked(1, "^Person a 1;");
        check.marked(1, "person a^_b 1;");
    }

    /** "N: digits". */
    private static void digits() {
        check.faultless("law 0123;", 1);
        check.same("decimal", Check.told("law 0123;").law(0, 0, 0, 0, 0), 123);
        check.same("4567", Check.told("law 4567;").law(0, 0, 0, 0, 0), 4567);
        check.same("8900", Check.told("law 8900;").law(0, 0, 0, 0, 0), 8900);
        check.same("many zeros", Check.told("law " + Check.times(600, "0") + "42;").law(0, 0, 0, 0, 0), 42);
        check.faultless("person a " + Check.times(600, "0") + ";", 1);
        check.marked(1, "person a 1 ^0;");
        check.marked(1, "person a ^:;");
        check.marked(1, "person a 1^:;");
        check.marked(1, "person a ^/;");
        check.marked(1, "person a ^-1;");
        check.marked(1, "person a ^+1;");
        check.marked(1, "person a 1^.0;");
    }

    /** "Blanks 10, 32." */
    private static void blanks() {
        check.faultless("\n person\n\na 1 \n;\n\n", 1);
        for (int blank : new int[] {10, 32}) {
            check.faultless("person" + (char) blank + "a 1;" + (char) blank, 1);
            check.faultless(Check.times(700, "" + (char) blank), 0);
        }
        for (int none : new int[] {0, 8, 9, 11, 12, 13, 31, 33, 127, 128, 133, 138, 160, 255}) {
            check.faulty("person" + (char) none + "a 1;", 1, 6);
            check.faulty("person a 1;" + (char) none, 1, 11);
        }
    }

    /** "1 a TOKEN that is none": all bytes that neither begin one nor are blank. */
    private static void bytesThatAreNoTokens() {
        for (int sign = 0; sign < 256; sign++) {
            boolean blank = sign == 10 || sign == 32;
            boolean token = sign >= 'a' && sign <= 'z' || sign >= '0' && sign <= '9'
                    || ";()+-*/%<=>".indexOf(sign) >= 0;
            if (!blank) {
                // a sign that is a token can't stand at the beginning, either
                check.faulty("" + (char) sign, 1, 0);
                check.faulty("law 1;  " + (char) sign + "law", 1, 8);
            }
            if (!blank && !token) {
                check.faulty("law 1" + (char) sign + "1;", 1, 5);
                check.faulty("law " + (char) sign, 1, 4);
            }
        }
    }

    /** "A = (or > behind <) right behind < or > belongs to it." */
    private static void signs() {
        String[] signs = {"<", "<=", "=", "<>", ">=", ">"};
        for (String sign : signs) {
            HalfHands hands = Check.told("law 1" + sign + "2;");
            check.same("knots of " + sign, hands.count(3), 3);
            check.faultless("law 1 " + sign + " 2;", 1);
            check.faultless("law 1\n" + sign + "\n2;", 1);
        }
        check.same("1<=1", Check.told("law 1<=1;").law(0, 0, 0, 0, 0), 1);
        check.same("1>=1", Check.told("law 1>=1;").law(0, 0, 0, 0, 0), 1);
        check.same("1<>1", Check.told("law 1<>1;").law(0, 0, 0, 0, 0), 0);
        check.marked(1, "law 1< ^=2;");
        check.marked(1, "law 1<\n^=2;");
        check.marked(1, "law 1> ^=2;");
        check.marked(1, "law 1< ^>2;");
        check.marked(1, "law 1=^<2;");
        check.marked(1, "law 1=^>2;");
        check.marked(1, "law 1=^=2;");
        check.marked(1, "law 1>^<2;");
        check.marked(1, "law 1>^>2;");
        check.marked(1, "law 1<^<2;");
        check.marked(1, "law 1<=^=2;");
        check.marked(1, "law 1<>^=2;");
        check.marked(1, "law 1<>^>2;");
        check.marked(1, "law 1>=^>2;");
        check.marked(1, "law 1<=^");
        check.marked(1, "law 1<^");
    }

    /** "N of E 0 .. 9999"; "2 too much (at it): a number beyond what is said". */
    private static void numbersOfE() {
        check.faultless("law 0;may a 1;may b 9998;may c 9999;", 4);
        check.marked(2, "law ^10000;");
        check.marked(2, "may a 0+^10000;");
        check.marked(2, "law (((^99999)));");
        check.marked(2, "law ^2147483648;");
        check.marked(2, "law ^4294967297;");
        check.marked(2, "law ^18446744073709551617;");
        check.marked(2, "law ^1000000;");
        check.faulty("law " + Check.times(690, "9") + ";", 2, 4);
        check.faultless("law 00009999;", 1);
        check.marked(2, "law ^00010000;");
    }

    /** "an AGE 0 .. 99". */
    private static void ages() {
        check.faultless("person a 0;person b 1;person c 98;person d 99;", 4);
        check.same("0", Check.told("person a 0;").look(0, 0), 0);
        check.same("99", Check.told("person a 99;").look(0, 0), 99);
        check.marked(2, "person a ^100;");
        check.marked(2, "person a ^4294967296;");
        check.marked(2, "person a ^18446744073709551616;");
        check.marked(2, "person a 1;person b ^100");
    }

    /** "a purse 0 .. 99999 (0 without)". */
    private static void purses() {
        HalfHands hands = Check.told("person a 1;person b 1 purse 0;person c 1 purse 1;person d 1 purse 99998;"
                + "person e 1 purse 99999;");
        int[] due = {0, 0, 1, 99998, 99999};
        for (int person = 0; person < due.length; person++) {
            check.same("purse of " + person, hands.look(person, 1), due[person]);
        }
        check.marked(2, "person a 1 purse ^100000;");
        check.marked(2, "person a 1 purse ^4294967296;");
        check.same("0 without, behind a text with one", purseBehindAnother(), 0);
    }

    private static int purseBehindAnother() {
        HalfHands hands = Check.told("person a 1 purse 77;");
        Check.tell(hands, "person a 1 purse 78;");
        Check.tell(hands, "person a 1;");
        return hands.look(0, 1);
    }

    /** "PEOPLE, at most 10"; "an eleventh person and so on (at the word of the LINE)". */
    private static void people() {
        check.faultless(Check.people(9), 9);
        check.faultless(Check.people(10), 10);
        check.same("count", Check.told(Check.people(10)).count(0), 10);
        check.faulty(Check.people(11), 2, 120);
        check.marked(2, Check.people(10) + "^person");
        check.marked(2, Check.people(10) + " ^person a 100;");
        check.marked(1, Check.people(10) + "^persons");
        check.marked(4, Check.people(10) + "hands j to ^k;");
        check.faultless(Check.people(10) + "hands j to a;", 11);
    }

    /** "to 1 .. 3 others"; "a fourth to whom one hands (at W)". */
    private static void toWhomOneHands() {
        String five = Check.people(5);
        check.marked(1, five + "hands a to^;");
        check.faultless(five + "hands a to b;", 6);
        check.faultless(five + "hands a to b or c;", 6);
        check.faultless(five + "hands a to b or c or d;", 6);
        check.marked(2, five + "hands a to b or c or d or ^e;");
        check.marked(2, five + "hands a to b or c or d or ^e or b;");
        check.marked(1, five + "hands a to b or c or d or^");
        HalfHands hands = Check.told(five + "hands a to b or c or d;hands b to e;");
        check.all("a hands to three", Check.person(hands, 0), 10, 0, 3, 1, 2, 3, 0);
        check.all("b hands to one", Check.person(hands, 1), 11, 0, 1, 4, -1, -1, 0);
    }

    /** "PARCELS, at most 12". */
    private static void parcels() {
        String twelve = "person a 1;" + Check.times(12, "parcel a 1 0;");
        check.faultless("person a 1;" + Check.times(11, "parcel a 1 0;"), 12);
        check.faultless(twelve, 13);
        check.same("count", Check.told(twelve).count(9), 12);
        check.marked(2, twelve + "^parcel a 1 0;");
        check.marked(2, twelve + "^parcel");
        check.marked(2, twelve + "\n\n^parcel q 0 1000;");
    }

    /** "so many coins 1 .. 99999". */
    private static void coinsOfParcels() {
        check.faultless("person a 1;parcel a 1 0;parcel a 2 0;parcel a 99998 0;parcel a 99999 0;", 5);
        check.marked(2, "person a 1;parcel a ^0 0;");
        check.marked(2, "person a 1;parcel a ^00 0;");
        check.marked(2, "person a 1;parcel a ^100000 0;");
        check.marked(2, "person a 1;parcel a ^4294967297 0;");
        check.same("99999", Check.told("person a 1;parcel a 99999 0;").parcel(0, 1), 99999);
        check.same("1", Check.told("person a 1;parcel a 1 0;").parcel(0, 1), 1);
    }

    /** "at an hour 0 .. 999". */
    private static void hoursOfParcels() {
        check.faultless("person a 1;parcel a 1 0;parcel a 1 1;parcel a 1 998;parcel a 1 999;", 5);
        check.marked(2, "person a 1;parcel a 1 ^1000;");
        check.marked(2, "person a 1;parcel a 1 ^4294967296;");
        check.same("999", Check.told("person a 1;parcel a 1 999;").parcel(0, 2), 999);
        check.same("0", Check.told("person a 1;parcel a 1 0;").parcel(0, 2), 0);
    }

    /** "MAY: laws that it may be instead, at most 4." */
    private static void mays() {
        check.faultless("may a 1;may b 1;may c 1;", 3);
        check.faultless("may a 1;may b 1;may c 1;may d 1;", 4);
        check.same("count", Check.told("may a 1;may b 1;may c 1;may d 1;").count(2), 4);
        check.marked(2, "may a 1;may b 1;may c 1;may d 1;^may e 1;");
        check.marked(2, "may a 1;may b 1;may c 1;may d 1;^may");
        check.faultless("may a 1;may b 1;may c 1;may d 1;law 1;", 5);
    }

    /** "3 told already: a name of its kind (at W)"; "PEOPLE, MAY have names of their kind." */
    private static void names() {
        check.marked(3, "person a 1;person ^a 1;");
        check.marked(3, Check.people(9) + "person ^i 100;");
        check.marked(3, Check.people(9) + "person ^a");
        check.marked(3, "may a 1;may ^a 1;");
        check.marked(3, "may a 1;may b 1;may c 1;may ^c");
        check.faultless("person a 1;may a 1;person b 1;may b 1;", 4);
        check.faultless("person a 1;person aa 1;person aaaaaa 1;person aaaaa 1;person z 1;", 5);
        check.marked(3, "person aaaaaa 1;person ^aaaaaa 1;");
    }

    /** "hands: a PERSON (once)"; "hands of the same PERSON (at the first W)". */
    private static void oncePerPerson() {
        check.faultless(AB + "hands a to b;hands b to a;", 4);
        check.marked(3, AB + "hands a to b;hands ^a to b;");
        check.marked(3, AB + "hands a to b;hands ^a");
        check.marked(3, AB + "hands a to b;hands ^a to a;");
    }

    /** "each once"; "the same one to whom one hands (at W)". */
    private static void oncePerHeir() {
        String four = Check.people(4);
        check.faultless(four + "hands a to b or c or d;hands b to c or d or a;", 6);
        check.marked(3, four + "hands a to b or ^b;");
        check.marked(3, four + "hands a to b or c or ^b;");
        check.marked(3, four + "hands a to b or c or ^c");
    }

    /** "law (at the word)": told already. */
    private static void oneLaw() {
        check.faultless("law 1;", 1);
        check.marked(3, "law 1;^law 1;");
        check.marked(3, "law 1; ^law");
        check.marked(3, "law 1;may a 1;^law");
        check.marked(1, "law 1;^laws");
    }

    /** "4 a PERSON that isn't told ahead (at W)". */
    private static void toldAhead() {
        check.marked(4, "hands ^a to b;");
        check.marked(4, "person b 1;hands ^a to b;person a 1;");
        check.marked(4, "person a 1;hands a to ^b;person b 1;");
        check.marked(4, AB + "hands a to b or ^c;person c 1;");
        check.marked(4, "parcel ^a 1 0;person a 1;");
        check.marked(4, "may a 1;parcel ^a 1 0;");
        check.faultless("person b 1;person a 1;hands a to b;parcel a 1 0;", 4);
    }

    /** "5 a PERSON that hands to itself (at W)". */
    private static void toItself() {
        check.marked(5, AB + "hands a to ^a;");
        check.marked(5, AB + "hands b to a or ^b;");
        check.marked(5, Check.people(4) + "hands d to a or b or ^d;");
    }

    /** "a ninth '(' open". */
    private static void openBrackets() {
        check.faultless("law " + Check.times(7, "(") + "1" + Check.times(7, ")") + ";", 1);
        check.faultless("law " + Check.times(8, "(") + "1" + Check.times(8, ")") + ";", 1);
        check.faulty("law " + Check.times(9, "(") + "1" + Check.times(9, ")") + ";", 2, 12);
        check.faulty("law " + Check.times(9, "("), 2, 12);
        check.faulty("law " + Check.times(8, "("), 1, 12);
        String eight = Check.times(8, "(") + "1" + Check.times(8, ")");
        check.faultless("law " + eight + "+" + eight + ";may a " + eight + ";", 2);
        check.marked(2, "may a " + Check.times(8, "(") + "^(1" + Check.times(9, ")") + ";");
        check.faultless("may a " + eight + ";may b " + eight + ";", 2);
        check.marked(2, "law 1;may a 1+" + Check.times(8, "(") + "^(1" + Check.times(9, ")") + ";");
        check.faultless("law " + Check.times(7, "(") + "1+(1)+(1)" + Check.times(7, ")") + ";", 1);
        check.faulty("law " + Check.times(8, "(") + "1+(1)" + Check.times(8, ")") + ";", 2, 14);
        check.faulty("law " + Check.times(8, "(") + "1 (", 1, 14);
        check.faultless("law not " + Check.times(4, "(not (1<") + "1" + Check.times(8, ")") + ";", 1);
    }

    /** "a 65th KNOT of all E (N, NAMES, signs, not, and, or: one each)". */
    private static void knots() {
        check.same("63", Check.told(SUM + ";").count(3), 63);
        check.same("64", Check.told(SUM + ";may a 1;").count(3), 64);
        check.faulty(SUM + "+1;", 2, SUM.length() + 1);
        check.faulty(SUM + " + 1 + 1;", 2, SUM.length() + 3);
        check.marked(2, SUM + ";may a 1;may b ^1;");
        check.same("of all E", Check.told("may a 1;may b 1+1;may c 1;may d 1;law 1;").count(3), 7);
        String mays = "may a 1;may b 1;may c 1;may d 1" + Check.times(30, "+1") + ";";
        check.same("64 of all MAY", Check.told(mays).count(3), 64);
        check.marked(2, mays + "law ^1;");
        check.same("all 64 count for its value", Check.told("may a 1;" + SUM + ";").law(0, 0, 0, 0, 0), 32);
        check.same("the 64th alone", lawOf("may a 1" + Check.times(31, "+1") + ";law coins;"), 5);
        check.same("brackets are none", Check.told(SUM + ";may a ((((1))));").count(3), 64);
        HalfHands hands = Check.told("law 1;");
        Check.tell(hands, "law 1+1+1;law");
        check.same("those of a text with a fault don't count", hands.count(3), 1);
        check.same("nor do those of a text ahead", Check.tell(hands, SUM + ";"), 1);
        check.same("count", hands.count(3), 63);
    }

    private static long lawOf(String text) {
        return Check.told(text).law(5, 0, 0, 0, 0);
    }

    /** "(N, NAMES, signs, not, and, or: one each)": each as the 64th and as the 65th. */
    private static void knotsOfEachKind() {
        String less = "law 1" + Check.times(30, "+1") + ";";
        for (String name : new String[] {"coins", "age", "next", "elder", "place", "hour", "0", "9999"}) {
            check.same("64 with " + name, Check.told(SUM + ";may a " + name + ";").count(3), 64);
            check.marked(2, SUM + ";may a 1;may b ^" + name + ";");
            check.marked(2, SUM + ";may a 1;may b ((^" + name + "));");
        }
        for (String sign : new String[] {"+", "-", "*", "/", "%", "<", "<=", "=", "<>", ">=", ">", " and ", " or "}) {
            check.same("64 with " + sign, Check.told(less + "may a 1" + sign + "1;").count(3), 64);
            String blank = sign.startsWith(" ") ? " ^" : "^";
            check.marked(2, SUM + ";may a 1" + blank + sign.trim() + " 1;");
        }
        check.same("64 with not", Check.told("law not 1" + Check.times(30, "+1") + ";may a not 1;").count(3), 64);
        check.marked(2, SUM + ";may a 1;may b ^not 1;");
        check.marked(2, SUM + ";may a not ^1;");
        check.marked(2, SUM + ";may a not ^not 1;");
        check.faultless("law " + Check.times(63, "not ") + "1;", 1);
        check.marked(2, "law " + Check.times(64, "not ") + "^1;");
        check.marked(2, "law " + Check.times(64, "not ") + "^not 1;");
    }

    /** "can't stand there (the length, if more must come)": behind each TOKEN but the ';' more must come. */
    private static void theLength() {
        String[] tokens = ("person a 1 purse 2 ; person b 3 ; person c 4 ; person d 5 ; hands a to b or c or d ; "
                + "parcel a 1 0 ; law not ( coins + 1 ) * 2 <= 3 and elder or 4 ; may m 5 % 6 ;").split(" ");
        StringBuilder text = new StringBuilder();
        int lines = 0;
        for (String token : tokens) {
            text.append(token);
            if (token.equals(";")) {
                lines++;
                check.faultless(text.toString(), lines);
                check.faultless(text + " \n", lines);
            } else {
                check.faulty(text.toString(), 1, text.length());
                check.faulty(text + " \n ", 1, text.length() + 3);
            }
            text.append(' ');
        }
        check.faultless("", 0);
    }

    /** "1 a TOKEN that .. can't stand there": behind each beginning all TOKENS but those that may follow. */
    private static void whatCannotStandThere() {
        String value = "7 coins age next elder place hour (";
        String joint = "or and + - * / %";
        String sign = " < <= = <> >= > ";
        mayFollow("", "person hands parcel law may");
        mayFollow("person", "b");
        mayFollow("person q", "7");
        mayFollow("person q 7", "purse ;");
        mayFollow("person q 7 purse", "7");
        mayFollow("person q 7 purse 7", ";");
        mayFollow("person q 7 ;", "person hands parcel law may");
        mayFollow(AB + "hands", "b");
        mayFollow(AB + "hands a", "to");
        mayFollow(AB + "hands a to", "b");
        mayFollow(AB + "hands a to b", "or ;");
        mayFollow(AB + "hands a to b or", "b");
        mayFollow(AB + "parcel", "b");
        mayFollow(AB + "parcel a", "7");
        mayFollow(AB + "parcel a 7", "7");
        mayFollow(AB + "parcel a 7 7", ";");
        mayFollow("law", value + " not");
        mayFollow("law 7", joint + sign + ";");
        mayFollow("law coins", joint + sign + ";");
        mayFollow("law not", value + " not");
        mayFollow("law not 7", joint + sign + ";");
        mayFollow("law (", value + " not");
        mayFollow("law ( 7", joint + sign + ")");
        mayFollow("law ( 7 )", joint + sign + ";");
        mayFollow("law ( ( 7 )", joint + sign + ")");
        mayFollow("law 7 +", value);
        mayFollow("law 7 -", value);
        mayFollow("law 7 *", value);
        mayFollow("law 7 /", value);
        mayFollow("law 7 %", value);
        for (String comparison : sign.trim().split(" ")) {
            mayFollow("law 7 " + comparison, value);
            mayFollow("law 7 " + comparison + " 7", joint + " ;");
            mayFollow("law ( 7 " + comparison + " 7", joint + " )");
            mayFollow("law ( 7 " + comparison + " 7 )", joint + sign + ";");
        }
        mayFollow("law 7 and", value + " not");
        mayFollow("law 7 or", value + " not");
        mayFollow("law 7 and 7", joint + sign + ";");
        mayFollow("may", "b");
        mayFollow("may q", value + " not");
        mayFollow("may q 7", joint + sign + ";");
    }

    private static void mayFollow(String beginning, String tokens) {
        String vocabulary = String.join(" ", LANGUAGE) + " b 7 abcdefg ! ; ( ) + - * / % < <= = <> >= >";
        for (String token : vocabulary.split(" ")) {
            String text = beginning + " " + token;
            if ((" " + tokens + " ").contains(" " + token + " ")) {
                HalfHands hands = new HalfHands();
                Check.tell(hands, text);
                boolean misplaced = hands.fault(0) == 1 && hands.fault(1) == beginning.length() + 1;
                check.same("'" + text + "' may stand so", !misplaced, true);
            } else {
                check.faulty(text, 1, beginning.length() + 1);
            }
        }
    }

    /** "FAULTS, the first along the text": whatever is told behind it. */
    private static void firstAlongTheText() {
        String[] lines = {"person ^7 1;", "person x ^100;", "person ^a 1;", "parcel ^q 1 0;", "hands a to ^a;"};
        for (int first = 0; first < lines.length; first++) {
            for (String second : lines) {
                check.marked(first + 1, AB + lines[first] + second.replace("^", ""));
                check.marked(first + 1, AB + "law 1;" + lines[first] + second.replace("^", "") + "!");
            }
            check.marked(first + 1, AB + lines[first]);
            check.marked(first + 1, AB + lines[first].substring(0, lines[first].length() - 1));
        }
        check.marked(2, "person a ^100!");
        check.marked(4, "hands ^q to q 5");
        check.marked(2, "person a 1;parcel a ^0 1000;");
        check.marked(4, "person a 1;parcel ^b 0 1000;");
        check.marked(1, "person a 1 ^person b 100;");
    }

    /** "(of one place the least)". */
    private static void ofOnePlaceTheLeast() {
        String fork = Check.people(5) + "hands a to b or c or d or ";
        check.marked(2, fork + "^b;");
        check.marked(2, fork + "^d;");
        check.marked(2, fork + "^q;");
        check.marked(2, fork + "^a;");
        check.marked(2, fork + "^e;");
        for (String none : new String[] {"7", "or", "to", "law", "coins", "abcdefg", "!", ";"}) {
            check.marked(1, fork + "^" + none + ";");
            check.marked(1, SUM + ";may a 1;may b ^" + none.replace("7", ")").replace("coins", "q") + ";");
        }
        check.marked(1, SUM + ";may a 1 ^1;");
        check.marked(1, SUM + ";may a 1 ^not 1;");
        check.marked(1, SUM + ";may a 1 ^coins;");
        check.marked(1, "law 1" + Check.times(30, "+1") + ";may a 1<1 ^<1;");
        check.marked(2, SUM + ";may a 1;may b ^10000;");
        check.marked(1, "law " + Check.times(8, "(") + "1 ^(1");
        check.marked(1, "law " + Check.times(8, "(") + "1)^(1");
        check.marked(1, AB + "hands a to b;hands ^7");
        check.marked(1, "person a 1;person ^abcdefg 1;");
        check.marked(1, Check.people(10) + "^persons");
    }
}
