/**
 * The edges of AN HOUR (part 2 of the Terms) and of promises 6 to 11; above each method is the sentence of the document
 * that it is for.
 */
public final class EdgeJourneyTest {
    private static final Check check = new Check();
    private static final String CHAIN = "person a 1;person b 1;person c 1;hands a to b;hands b to c;";

    public static void main(String[] args) {
        suchPeople();
        toWhom();
        theHourOfAParcel();
        sentFirstByNumbers();
        byNumbers();
        hundredHands();
        hundredthHandsToNobody();
        handsToNobody();
        moreThanNought();
        turns();
        ownParcelsTakeTurns();
        nobodysOwn();
        soManyHours();
        beyondThreeThousand();
        sentInTheNextHour();
        coinsOfASend();
        thirtyParcels();
        suchParcels();
        statesOfAParcel();
        allCoins();
        restOfNone();
        restFromAnyone();
        restOfEach();
        restIsTheLongest();
        check.end();
    }

    /** Promise 6: "IndexOutOfBoundsException: no such PERSON. NoSuchElementException: no such what." */
    private static void suchPeople() {
        for (int people : new int[] {1, 2, 9, 10}) {
            HalfHands hands = Check.told(Check.people(people));
            for (int what = 0; what <= 6; what++) {
                int number = what;
                check.bounds("person of " + people, 0, people - 1, Check.OUT_OF_BOUNDS,
                        person -> Check.look(hands, person, number));
            }
            check.bounds("what", 0, 6, Check.NO_SUCH, what -> Check.look(hands, people - 1, what));
            check.same("both", Check.look(hands, people, 7), Check.OUT_OF_BOUNDS);
            check.same("both", Check.look(hands, -1, -1), Check.OUT_OF_BOUNDS);
        }
        check.same("nobody", Check.look(new HalfHands(), 0, 0), Check.OUT_OF_BOUNDS);
        check.same("nobody", Check.look(new HalfHands(), -1, 0), Check.OUT_OF_BOUNDS);
        HalfHands hands = Check.told(Check.people(3));
        Check.tell(hands, Check.people(2));
        check.same("of a text ahead", Check.look(hands, 2, 0), Check.OUT_OF_BOUNDS);
    }

    /** Promise 6: "2 to how many it hands, 3 .. 5 to whom (NONE), 6 to the how manieth it hands next (0 up; 0)". */
    private static void toWhom() {
        HalfHands hands = Check.told(Check.people(4) + "hands b to a;hands c to d or a;hands d to c or b or a;");
        check.all("to nobody", Check.person(hands, 0), 10, 0, 0, -1, -1, -1, 0);
        check.all("to one", Check.person(hands, 1), 11, 0, 1, 0, -1, -1, 0);
        check.all("to two", Check.person(hands, 2), 12, 0, 2, 3, 0, -1, 0);
        check.all("to three", Check.person(hands, 3), 13, 0, 3, 2, 1, 0, 0);
    }

    /** "first PARCELS of this hour are sent": not an HOUR earlier, nor later. */
    private static void theHourOfAParcel() {
        for (int hour : new int[] {0, 1, 2, 299, 300, 998, 999}) {
            HalfHands hands = Check.told(CHAIN + "parcel a 9 " + hour + ";");
            pass(hands, hour);
            check.all("ahead of HOUR " + hour, Check.parcel(hands, 0), 0, 9, hour, 0, 0, 0, -1);
            hands.hours(1);
            check.all("behind HOUR " + hour, Check.parcel(hands, 0), 0, 9, hour, 1, 9, 0, 1);
        }
    }

    private static void pass(HalfHands hands, int hours) {
        for (int left = hours; left > 0; left -= 300) {
            hands.hours(Math.min(left, 300));
        }
    }

    /** "first PARCELS of this hour are sent, by numbers .. Then each PARCEL that was handed on in the HOUR ahead". */
    private static void sentFirstByNumbers() {
        HalfHands hands = Check.told(Check.people(4) + "hands a to b or c or d;hands b to a;"
                + "parcel b 40 0;parcel a 10 1;parcel a 20 1;");
        hands.hours(2);
        check.same("parcel 1 is sent first, to b", hands.parcel(1, 6), 1);
        check.same("parcel 2 next, to c", hands.parcel(2, 6), 2);
        check.same("then 0 comes, and goes to d", hands.parcel(0, 6), 3);
        check.same("what is sent now comes in the next HOUR", hands.parcel(1, 5), 0);
        check.same("the turn is b's again", hands.look(0, 6), 0);
    }

    /** "Then each PARCEL .., by numbers, comes": whichever was sent ahead of the other. */
    private static void byNumbers() {
        HalfHands hands = Check.told(Check.people(5) + "hands a to b;hands c to a;hands b to d or e;"
                + "parcel a 8 1;parcel c 16 0;");
        hands.hours(3);
        check.same("both came to b in HOUR 2: first 0", hands.parcel(0, 6), 3);
        check.same("then 1", hands.parcel(1, 6), 4);
        check.same("in 1 HAND", hands.parcel(0, 5), 1);
        check.same("in 2 HANDS", hands.parcel(1, 5), 2);
    }

    /** "or it has been in 100 HANDS (this one told), he keeps all". */
    private static void hundredHands() {
        HalfHands hands = Check.told("person a 1;person b 1;hands a to b;hands b to a;parcel a 1 0;law 0;");
        hands.hours(100);
        check.all("99 HANDS", Check.parcel(hands, 0), 0, 1, 0, 1, 1, 99, 0);
        check.same("no purse", hands.look(0, 1) + hands.look(1, 1), 0);
        hands.hours(1);
        check.all("100 HANDS", Check.parcel(hands, 0), 0, 1, 0, 2, 0, 100, -1);
        check.same("a has it", hands.look(0, 1), 1);
        hands.hours(1);
        check.all("no 101st", Check.parcel(hands, 0), 0, 1, 0, 2, 0, 100, -1);
        check.same("a's turn has not gone on", hands.look(0, 6), 0);
        HalfHands more = Check.told("person a 1;person b 1;hands a to b;hands b to a;parcel a 99999 0;law 0;");
        more.hours(101);
        check.same("of more coins the last one goes round, too", more.parcel(0, 5), 100);
        check.same("all coins", more.coins(), 99999);
    }

    /** "it has been in 100 HANDS .., he keeps all; else THE ODD ONE": the 99th by the law, the 100th without it. */
    private static void hundredthHandsToNobody() {
        HalfHands hands = Check.told("person a 1;person b 1;hands a to b;hands b to a;parcel a 1 0;law place=99;");
        hands.hours(99);
        check.same("98 HANDS", hands.parcel(0, 5), 98);
        hands.hours(1);
        check.all("the 99th keeps it by the law", Check.parcel(hands, 0), 0, 1, 0, 2, 0, 99, -1);
        HalfHands late = Check.told("person a 1;person b 1;hands a to b;hands b to a;parcel a 1 0;law place=100;");
        late.hours(101);
        check.same("the 100th keeps all without it", late.parcel(0, 5), 100);
        check.same("rest", late.rest(), 0);
    }

    /** "if he hands to nobody, .. he keeps all": odd or even. */
    private static void handsToNobody() {
        for (int coins : new int[] {1, 2, 3, 99999}) {
            HalfHands hands = Check.told("person a 1;person b 1;hands a to b;parcel a " + coins + " 0;law 0;");
            hands.hours(2);
            check.all("at rest", Check.parcel(hands, 0), 0, coins, 0, 2, 0, 1, -1);
            check.same("all", hands.look(1, 1), coins);
        }
    }

    /** "he hands on what is left, if that is more than 0; with 0 it is at rest". */
    private static void moreThanNought() {
        for (int coins = 1; coins <= 3; coins++) {
            HalfHands stays = Check.told(CHAIN + "parcel a " + coins + " 0;law 1;");
            stays.hours(2);
            int left = coins / 2;
            check.same("left of " + coins, stays.parcel(0, 4), left);
            check.same("state of " + coins, stays.parcel(0, 3), left > 0 ? 1 : 2);
            check.same("to whom of " + coins, stays.parcel(0, 6), left > 0 ? 2 : -1);
            check.same("b has of " + coins, stays.look(1, 1), coins - left);
        }
        HalfHands goes = Check.told(CHAIN + "parcel a 1 0;law 0;");
        goes.hours(2);
        check.all("the one coin goes on", Check.parcel(goes, 0), 0, 1, 0, 1, 1, 1, 2);
        check.same("b has nothing", goes.look(1, 1), 0);
        HalfHands fork = Check.told(Check.people(4) + "hands a to b;hands b to c or d;parcel a 1 0;parcel a 3 0;"
                + "parcel a 3 0;law 1;");
        fork.hours(2);
        check.same("what isn't handed on takes no turn", fork.parcel(1, 6), 2);
        check.same("the next one does", fork.parcel(2, 6), 3);
    }

    /** "to them by TURNS: the first thing .. to the first, the next one to the next, then the first again". */
    private static void turns() {
        String[] forks = {"b", "b or c", "b or c or d", "d or b", "c or d or b"};
        int[][] due = {{1}, {1, 2}, {1, 2, 3}, {3, 1}, {2, 3, 1}};
        for (int i = 0; i < forks.length; i++) {
            HalfHands hands = Check.told(Check.people(4) + "hands a to " + forks[i] + ";");
            for (int sent = 0; sent < 8; sent++) {
                check.same("turn " + sent + " of " + forks[i], hands.look(0, 6), sent % due[i].length);
                hands.send(0, 10);
                hands.hours(1);
                check.same("thing " + sent + " of " + forks[i], hands.parcel(sent, 6), due[i][sent % due[i].length]);
            }
        }
    }

    /** "(his own PARCELS too)". */
    private static void ownParcelsTakeTurns() {
        HalfHands hands = Check.told(Check.people(3) + "hands a to b;hands b to a or c;parcel a 8 0;parcel b 8 1;"
                + "parcel b 8 2;");
        hands.hours(2);
        check.same("his own goes to the first", hands.parcel(1, 6), 0);
        check.same("what came to the next", hands.parcel(0, 6), 2);
        hands.hours(1);
        check.same("his own to the first again", hands.parcel(2, 6), 0);
    }

    /** "A PARCEL of one who hands to nobody stays his (his purse has it): at rest." */
    private static void nobodysOwn() {
        HalfHands hands = Check.told("person a 1 purse 99999;parcel a 99999 0;parcel a 1 1;");
        hands.hours(1);
        check.all("at rest at once", Check.parcel(hands, 0), 0, 99999, 0, 2, 0, 0, -1);
        check.same("purse", hands.look(0, 1), 199998);
        check.same("the other one", hands.parcel(1, 3), 0);
        hands.hours(1);
        check.same("purse", hands.look(0, 1), 199999);
    }

    /** Promise 7: "So many HOURS (0 .. 300) more go by .. NONE, and none does: no such number". */
    private static void soManyHours() {
        for (int n : new int[] {0, 1, 2, 299, 300}) {
            check.same("hours(" + n + ")", Check.told("person a 1;").hours(n), n);
        }
        for (int n : new int[] {Integer.MIN_VALUE, -300, -1, 301, 302, 3000, 3001, Integer.MAX_VALUE}) {
            HalfHands hands = Check.told(CHAIN + "parcel a 9 0;");
            check.same("hours(" + n + ")", hands.hours(n), -1);
            check.same("none did", hands.count(4), 0);
            check.same("nothing is sent", hands.parcel(0, 3), 0);
        }
        HalfHands one = Check.told(CHAIN + "parcel a 9 3;");
        HalfHands other = Check.told(CHAIN + "parcel a 9 3;");
        one.hours(300);
        for (int i = 0; i < 300; i++) {
            other.hours(1);
        }
        check.same("at once or one by one", one.look(2, 1), other.look(2, 1));
        check.same("hour", one.count(4), other.count(4));
    }

    private static HalfHands at(int hour) {
        HalfHands hands = Check.told(CHAIN);
        pass(hands, hour);
        return hands;
    }

    /** Promise 7: "NONE, and none does: .. beyond 3000." */
    private static void beyondThreeThousand() {
        check.same("300 at 2699", at(2699).hours(300), 2999);
        check.same("300 at 2700", at(2700).hours(300), 3000);
        check.same("300 at 2701", at(2701).hours(300), -1);
        check.same("299 at 2701", at(2701).hours(299), 3000);
        check.same("1 at 2998", at(2998).hours(1), 2999);
        check.same("1 at 2999", at(2999).hours(1), 3000);
        check.same("2 at 2999", at(2999).hours(2), -1);
        check.same("0 at 2999", at(2999).hours(0), 2999);
        HalfHands hands = at(3000);
        check.same("1 at 3000", hands.hours(1), -1);
        check.same("300 at 3000", hands.hours(300), -1);
        check.same("-1 at 3000", hands.hours(-1), -1);
        check.same("0 at 3000", hands.hours(0), 3000);
        check.same("still 3000", hands.count(4), 3000);
        check.same("send at 3000", hands.send(0, 5), 0);
        check.same("1 at 3000", hands.hours(1), -1);
        check.all("it waits", Check.parcel(hands, 0), 0, 5, 3000, 0, 0, 0, -1);
    }

    /** Promise 8: "sent in the HOUR that is next (with those of the TEXT, behind them): its number". */
    private static void sentInTheNextHour() {
        HalfHands hands = Check.told(Check.people(4) + "hands a to b or c or d;parcel a 10 0;parcel a 20 5;");
        check.same("behind those of the text", hands.send(0, 7), 2);
        check.same("its hour", hands.parcel(2, 2), 0);
        hands.hours(1);
        check.same("the text's to b", hands.parcel(0, 6), 1);
        check.same("that by call to c", hands.parcel(2, 6), 2);
        hands.hours(4);
        check.same("send", hands.send(0, 8), 3);
        check.same("its hour", hands.parcel(3, 2), 5);
        check.same("not sent yet", hands.parcel(3, 3), 0);
        hands.hours(1);
        check.same("the text's to d", hands.parcel(1, 6), 3);
        check.same("that by call to b again", hands.parcel(3, 6), 1);
    }

    /** Promise 8: "NONE: no such ones (coins 1 .. 99999)". */
    private static void coinsOfASend() {
        HalfHands hands = Check.told(CHAIN);
        check.bounds("coins", 1, 99999, -1, coins -> hands.send(0, coins));
        check.same("four were sent", hands.count(1), 4);
        check.bounds("person", 0, 2, -1, person -> hands.send(person, 1));
        check.same("eight were sent", hands.count(1), 8);
        check.same("of no text", new HalfHands().send(0, 1), -1);
        hands.hours(1);
        check.same("coins", hands.coins(), 1 + 2 + 99998 + 99999 + 4);
    }

    /** Promise 8: "or there are 30 PARCELS": those of the TEXT too. */
    private static void thirtyParcels() {
        for (int told : new int[] {0, 1, 12}) {
            HalfHands hands = Check.told("person a 1;" + Check.times(told, "parcel a 1 0;"));
            for (int i = told; i < 30; i++) {
                check.same("parcel " + i, hands.send(0, 1), i);
            }
            check.same("a 31st", hands.send(0, 1), -1);
            check.same("count", hands.count(1), 30);
            check.same("of the TEXT", hands.count(9), told);
            hands.hours(1);
            check.same("a 31st when all are at rest", hands.send(0, 1), -1);
            check.same("purse", hands.look(0, 1), 30);
        }
    }

    /** Promise 9: "NONE: no such ones." */
    private static void suchParcels() {
        HalfHands hands = Check.told("person a 1;parcel a 5 0;parcel a 6 0;");
        check.bounds("parcel", 0, 1, -1, parcel -> hands.parcel(parcel, 1));
        hands.send(0, 7);
        check.bounds("parcel", 0, 2, -1, parcel -> hands.parcel(parcel, 1));
        check.bounds("what", 0, 5, -1, what -> hands.parcel(2, what == 6 ? 7 : what));
        check.same("what 6 of one that isn't under way", hands.parcel(2, 6), -1);
        check.same("of no text", new HalfHands().parcel(0, 0), -1);
        HalfHands full = Check.told("person a 1;");
        for (int i = 0; i < 30; i++) {
            full.send(0, i + 1);
        }
        check.bounds("parcel", 0, 29, -1, parcel -> full.parcel(parcel, 1));
        check.same("the last", full.parcel(29, 1), 30);
    }

    /** Promise 9: "3: 0 not sent yet, 1 under way, 2 at rest, .. 6: to whom it is handed (NONE, if it isn't ..)". */
    private static void statesOfAParcel() {
        HalfHands hands = Check.told("person a 9;person b 8;person c 7;hands a to b;hands b to c;parcel a 7 1;");
        long[][] due = {{0, 7, 1, 0, 0, 0, -1}, {0, 7, 1, 0, 0, 0, -1}, {0, 7, 1, 1, 7, 0, 1}, {0, 7, 1, 1, 3, 1, 2},
            {0, 7, 1, 2, 0, 2, -1}, {0, 7, 1, 2, 0, 2, -1}};
        int[] underWay = {0, 0, 1, 1, 0, 0};
        int[] atRest = {0, 0, 0, 0, 1, 1};
        int[] rest = {4, 3, 2, 1, 0, 0};
        int[] coins = {0, 0, 7, 7, 7, 7};
        for (int hour = 0; hour < due.length; hour++) {
            check.all("at " + hour, Check.parcel(hands, 0), due[hour]);
            check.same("under way", hands.count(7), underWay[hour]);
            check.same("at rest", hands.count(8), atRest[hour]);
            check.same("rest", hands.rest(), rest[hour]);
            check.same("coins", hands.coins(), coins[hour]);
            hands.hours(1);
        }
    }

    /** Promise 10: "All coins in purses and on the way": none at least, and the most that there can be. */
    private static void allCoins() {
        check.same("of no text", new HalfHands().coins(), 0);
        check.same("of nobody", Check.told("law 1;").coins(), 0);
        StringBuilder text = new StringBuilder();
        for (int i = 0; i < 10; i++) {
            text.append("person ").append((char) ('a' + i)).append(" 1 purse 99999;");
        }
        HalfHands hands = Check.told(text + "hands a to b;hands b to a;");
        for (int i = 0; i < 30; i++) {
            hands.send(i % 2 == 0 ? 0 : 9, 99999);
        }
        check.same("those that aren't sent aren't on the way", hands.coins(), 999990);
        hands.hours(1);
        check.same("half of them on the way", hands.coins(), 40 * 99999L);
        hands.hours(10);
        check.same("some on the way", hands.coins(), 40 * 99999L);
        hands.hours(100);
        check.same("all in purses", hands.coins(), 40 * 99999L);
        check.same("j's", hands.look(9, 1), 16 * 99999);
    }

    /** Promise 11: "HOURS from now on till all PARCELS are at rest": 0, if they are, or there are none. */
    private static void restOfNone() {
        check.same("of no text", new HalfHands().rest(), 0);
        check.same("of no parcel", Check.told(CHAIN).rest(), 0);
        HalfHands hands = Check.told("person a 1;parcel a 1 0;");
        check.same("one that is to be sent now", hands.rest(), 1);
        hands.hours(1);
        check.same("at rest", hands.rest(), 0);
        hands.send(0, 1);
        check.same("sent by call", hands.rest(), 1);
        check.same("of the last HOUR", sentAt(3000).rest(), 3);
        check.same("of the one ahead", sentAt(2999).rest(), 3);
    }

    /** Promise 11: from whomever it is, and whichever is last. */
    private static void restFromAnyone() {
        for (int from = 0; from < 4; from++) {
            for (int hour = 0; hour < 3; hour++) {
                HalfHands hands = Check.told(Check.people(4) + "hands a to b;hands b to c;hands c to d;parcel "
                        + (char) ('a' + from) + " 8 " + hour + ";");
                check.same("rest from " + from, hands.rest(), hour + 4 - from);
                hands.hours(hour);
                check.same("rest when it is next", hands.rest(), 4 - from);
                hands.send(0, 8);
                check.same("with one from a", hands.rest(), 4);
                hands.hours(1);
                check.same("an HOUR later", hands.rest(), 3);
            }
        }
    }

    private static HalfHands sentAt(int hour) {
        HalfHands hands = at(hour);
        hands.send(0, 8);
        return hands;
    }

    /** Promise 11: each HOUR that goes by is one less. */
    private static void restOfEach() {
        HalfHands hands = Check.told("person a 1;person b 1;hands a to b;hands b to a;parcel a 1 2;law 0;");
        for (int left = 103; left >= 0; left--) {
            check.same("rest at " + hands.count(4), hands.rest(), left);
            check.same("all at rest", hands.count(8), left == 0 ? 1 : 0);
            hands.hours(1);
        }
        check.same("and stays 0", hands.rest(), 0);
    }

    /** Promise 11: "(0 .. 3000)": the longest that there is. */
    private static void restIsTheLongest() {
        HalfHands hands = Check.told("person a 1;person b 1;hands a to b;hands b to a;parcel a 1 999;parcel a 1 0;law 0;");
        check.same("of HOUR 999", hands.rest(), 1100);
        hands.hours(1);
        check.same("one HOUR later", hands.rest(), 1099);
        pass(hands, 998);
        check.same("at 999", hands.rest(), 101);
        hands.hours(100);
        check.same("at 1099", hands.rest(), 1);
        hands.hours(1);
        check.same("at 1100", hands.rest(), 0);
    }
}
