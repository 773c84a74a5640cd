/** Promises 6 to 11: look, hours, send, parcel, coins, rest. */
public final class JourneyTest {
    private static final Check check = new Check();

    public static void main(String[] args) {
        looking();
        alongAChain();
        stayingAtHome();
        forks();
        sentAheadOfWhatComes();
        zeroLeftHandsNothingOn();
        laws();
        hundredHands();
        hourBounds();
        sending();
        resting();
        check.end();
    }

    private static void looking() {
        HalfHands hands = Check.told("person a 5;person b 99 purse 77;person c 0;person d 3;"
                + "hands a to d or b or c;hands b to a;");
        check.all("a", Check.person(hands, 0), 5, 0, 3, 3, 1, 2, 0);
        check.all("b", Check.person(hands, 1), 99, 77, 1, 0, -1, -1, 0);
        check.same("c hands to", Check.look(hands, 2, 3), -1);
        check.same("c hands next", Check.look(hands, 2, 6), 0);
        check.same("what 7", Check.look(hands, 0, 7), Check.NO_SUCH);
        check.same("what -1", Check.look(hands, 0, -1), Check.NO_SUCH);
        check.same("person 4", Check.look(hands, 4, 0), Check.OUT_OF_BOUNDS);
        check.same("person -1", Check.look(hands, -1, 0), Check.OUT_OF_BOUNDS);
        check.same("both wrong", Check.look(hands, 4, 7), Check.OUT_OF_BOUNDS);
        check.same("nobody", Check.look(new HalfHands(), 0, 0), Check.OUT_OF_BOUNDS);
    }

    private static void alongAChain() {
        HalfHands hands = Check.told("person a 50 purse 2;person b 30;person c 40;hands a to b;hands b to c;"
                + "parcel a 7 2;");
        check.all("not sent", Check.parcel(hands, 0), 0, 7, 2, 0, 0, 0, -1);
        check.same("rest", hands.rest(), 5);
        check.same("coins", hands.coins(), 2);
        check.same("hours(2)", hands.hours(2), 2);
        check.all("not sent yet", Check.parcel(hands, 0), 0, 7, 2, 0, 0, 0, -1);
        check.same("hours(1)", hands.hours(1), 3);
        check.all("sent", Check.parcel(hands, 0), 0, 7, 2, 1, 7, 0, 1);
        check.same("a pays nothing", Check.look(hands, 0, 1), 2);
        check.same("coins", hands.coins(), 9);
        check.same("rest", hands.rest(), 2);
        hands.hours(1);
        check.all("b is younger: the odd one goes on", Check.parcel(hands, 0), 0, 7, 2, 1, 4, 1, 2);
        check.same("b has", Check.look(hands, 1, 1), 3);
        hands.hours(1);
        check.all("at rest", Check.parcel(hands, 0), 0, 7, 2, 2, 0, 2, -1);
        check.same("c has", Check.look(hands, 2, 1), 4);
        check.same("coins", hands.coins(), 9);
        check.same("rest", hands.rest(), 0);
        hands.hours(300);
        check.all("it stays at rest", Check.parcel(hands, 0), 0, 7, 2, 2, 0, 2, -1);
        check.same("parcel 1", hands.parcel(1, 0), -1);
        check.same("parcel -1", hands.parcel(-1, 0), -1);
        check.same("what 7", hands.parcel(0, 7), -1);
        check.same("what -1", hands.parcel(0, -1), -1);
    }

    private static void stayingAtHome() {
        HalfHands hands = Check.told("person a 1 purse 3;parcel a 5 1;");
        check.same("rest", hands.rest(), 2);
        hands.hours(2);
        check.all("stays his", Check.parcel(hands, 0), 0, 5, 1, 2, 0, 0, -1);
        check.same("purse", Check.look(hands, 0, 1), 8);
    }

    private static void forks() {
        HalfHands hands = Check.told("person a 1;person b 1;person c 1;person d 1;hands a to b or c or d;"
                + "parcel a 10 0;parcel a 20 0;parcel a 30 1;parcel a 40 1;parcel a 50 2;");
        hands.hours(1);
        check.same("first to b", hands.parcel(0, 6), 1);
        check.same("second to c", hands.parcel(1, 6), 2);
        check.same("turn", Check.look(hands, 0, 6), 2);
        hands.hours(1);
        check.same("third to d", hands.parcel(2, 6), 3);
        check.same("fourth to b again", hands.parcel(3, 6), 1);
        check.same("turn", Check.look(hands, 0, 6), 1);
        hands.hours(2);
        check.same("b", Check.look(hands, 1, 1), 50);
        check.same("c", Check.look(hands, 2, 1), 70);
        check.same("d", Check.look(hands, 3, 1), 30);
    }

    private static void sentAheadOfWhatComes() {
        HalfHands hands = Check.told("person a 1;person b 1;person c 1;hands a to b or c;hands b to a;hands c to a;"
                + "parcel b 8 0;");
        hands.hours(1);
        check.same("send", hands.send(0, 6), 1);
        hands.hours(1);
        check.same("a's own went first, to b", hands.parcel(1, 6), 1);
        check.same("and did not come in the same hour", hands.parcel(1, 5), 0);
        check.same("then what came, to c", hands.parcel(0, 6), 2);
        check.same("halved", hands.parcel(0, 4), 4);
        check.same("turn", Check.look(hands, 0, 6), 0);
    }

    private static void zeroLeftHandsNothingOn() {
        HalfHands hands = Check.told("person a 1;person b 1;person c 1;person d 1;hands a to b;hands b to c or d;"
                + "law 1;parcel a 1 0;parcel a 3 0;");
        hands.hours(2);
        check.all("kept whole", Check.parcel(hands, 0), 0, 1, 0, 2, 0, 1, -1);
        check.all("the next one goes to the first", Check.parcel(hands, 1), 0, 3, 0, 1, 1, 1, 2);
        check.same("turn", Check.look(hands, 1, 6), 1);
        check.same("b has", Check.look(hands, 1, 1), 3);
    }

    private static int keptByB(String law, int coins, int hour) {
        HalfHands hands = Check.told("person a 1;person b 60;person c 40;person d 50;hands a to b;hands b to c;"
                + "hands c to d;" + law + "parcel a " + coins + " " + hour + ";");
        hands.hours(hour + 2);
        return Check.look(hands, 1, 1);
    }

    private static void laws() {
        check.same("older", keptByB("", 7, 0), 4);
        check.same("even", keptByB("", 6, 0), 3);
        check.same("goes", keptByB("law 0;", 7, 0), 3);
        check.same("below 0 isn't 0", keptByB("law 0-1;", 7, 0), 4);
        check.same("an error", keptByB("law 1/0;", 7, 0), 3);
        check.same("too great", keptByB("law 9999*9999*9999*9999;", 7, 0), 3);
        check.same("coins", keptByB("law coins=7;", 7, 0), 4);
        check.same("other coins", keptByB("law coins=7;", 9, 0), 4);
        check.same("age, next", keptByB("law age=60 and next=40;", 7, 0), 4);
        check.same("place", keptByB("law place=1;", 7, 0), 4);
        check.same("no other place", keptByB("law place<>1;", 7, 0), 3);
        check.same("hour", keptByB("law hour=5;", 7, 4), 4);
        check.same("not the hour of sending", keptByB("law hour=4;", 7, 4), 3);
        check.same("a may is no law", keptByB("may m 0;", 7, 0), 4);
        HalfHands hands = Check.told("person a 1;person b 1;person c 1;person d 1;hands a to b;hands b to c;"
                + "hands c to d;law place=2;parcel a 7 0;");
        hands.hours(4);
        check.same("b at place 1", Check.look(hands, 1, 1), 3);
        check.same("c at place 2", Check.look(hands, 2, 1), 2);
        check.same("d", Check.look(hands, 3, 1), 2);
        HalfHands fork = Check.told("person a 1;person b 5;person c 9;person d 1;hands a to b;hands b to c or d;"
                + "parcel a 5 0;parcel a 5 0;");
        fork.hours(2);
        check.same("to the elder c: the odd one goes", fork.parcel(0, 4), 3);
        check.same("to the younger d: it stays", fork.parcel(1, 4), 2);
    }

    private static void hundredHands() {
        HalfHands hands = Check.told("person a 1;person b 1;person c 1;hands a to b;hands b to c;hands c to a;"
                + "law 0;parcel a 1 0;");
        check.same("rest", hands.rest(), 101);
        hands.hours(100);
        check.same("99 hands", hands.parcel(0, 5), 99);
        check.same("under way", hands.parcel(0, 3), 1);
        hands.hours(1);
        check.same("100 hands", hands.parcel(0, 5), 100);
        check.same("at rest", hands.parcel(0, 3), 2);
        check.same("the hundredth is b", Check.look(hands, 1, 1), 1);
    }

    private static void hourBounds() {
        HalfHands hands = Check.told("person a 1;");
        check.same("hours(-1)", hands.hours(-1), -1);
        check.same("hours(301)", hands.hours(301), -1);
        check.same("hours(MAX)", hands.hours(Integer.MAX_VALUE), -1);
        for (int i = 1; i <= 9; i++) {
            check.same("hours(300)", hands.hours(300), 300 * i);
        }
        check.same("hours(299)", hands.hours(299), 2999);
        check.same("beyond 3000", hands.hours(2), -1);
        check.same("still", hands.count(4), 2999);
        check.same("to 3000", hands.hours(1), 3000);
        check.same("no more", hands.hours(1), -1);
        check.same("hours(0)", hands.hours(0), 3000);
        check.same("a parcel that waits", hands.send(0, 1), 0);
        check.same("its hour", hands.parcel(0, 2), 3000);
        check.same("rest", hands.rest(), 1);
    }

    private static void sending() {
        HalfHands hands = Check.told("person a 1;person b 1;hands a to b;parcel a 4 9;");
        check.same("person 2", hands.send(2, 1), -1);
        check.same("person -1", hands.send(-1, 1), -1);
        check.same("coins 0", hands.send(0, 0), -1);
        check.same("coins 100000", hands.send(0, 100000), -1);
        hands.hours(5);
        check.same("number", hands.send(0, 99999), 1);
        check.all("not sent yet", Check.parcel(hands, 1), 0, 99999, 5, 0, 0, 0, -1);
        hands.hours(1);
        check.all("sent", Check.parcel(hands, 1), 0, 99999, 5, 1, 99999, 0, 1);
        for (int i = 2; i < 30; i++) {
            check.same("number", hands.send(1, 1), i);
        }
        check.same("a 31st", hands.send(1, 1), -1);
        check.same("count", hands.count(1), 30);
        hands.hours(1);
        check.same("coins", hands.coins(), 99999 + 28);
        check.same("the text's is later", hands.parcel(0, 3), 0);
    }

    private static void resting() {
        HalfHands hands = Check.told("person a 1;person b 1;hands a to b;hands b to a;law 0;parcel a 1 999;");
        check.same("from 0 on", hands.rest(), 1100);
        check.same("asking changes nothing", hands.count(4), 0);
        check.same("nor the parcel", hands.parcel(0, 3), 0);
        hands.hours(300);
        check.same("from 300 on", hands.rest(), 800);
        hands.send(0, 1);
        check.same("with one by call", hands.rest(), 800);
    }
}
