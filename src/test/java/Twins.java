import java.util.ArrayList;
import java.util.Arrays;
import java.util.List;

/** Two objects with the same calls behind them, of which one gets one call more: whether that changes anything. */
final class Twins {
    /** Makes an object, always the same one. */
    interface Maker {
        HalfHands made();
    }

    interface Call {
        long answer(HalfHands hands);
    }

    private Twins() {
    }

    /** A call that answers what is due, and by which all stays as it was. */
    static void unchanged(Check check, String what, Maker maker, long due, Call call) {
        HalfHands called = maker.made();
        check.same(what, call.answer(called), due);
        check.same(what + ": all stays", Arrays.equals(all(called), all(maker.made())), true);
    }

    /** All that an object can be asked for, and then what comes of its TAPE, its NOTES and its IMAGE. */
    private static long[] all(HalfHands hands) {
        List<Long> answers = new ArrayList<>();
        askState(hands, answers);
        askLaws(hands, answers);
        askTape(hands, answers);
        askNotes(hands, answers);
        answers.add((long) hands.again());
        askState(hands, answers);
        answers.add((long) hands.hours(1));
        askPurses(hands, answers);
        return answers.stream().mapToLong(Long::longValue).toArray();
    }

    private static void askState(HalfHands hands, List<Long> answers) {
        for (int what = 0; what <= 9; what++) {
            answers.add((long) hands.count(what));
        }
        for (int person = 0; person < hands.count(0); person++) {
            add(answers, Check.person(hands, person));
        }
        for (int parcel = 0; parcel < Math.min(5, hands.count(1)); parcel++) {
            add(answers, Check.parcel(hands, parcel));
        }
        answers.add(hands.coins());
        answers.add((long) hands.rest());
    }

    private static void askPurses(HalfHands hands, List<Long> answers) {
        for (int person = 0; person < hands.count(0); person++) {
            answers.add((long) Check.look(hands, person, 1));
        }
    }

    private static void askLaws(HalfHands hands, List<Long> answers) {
        answers.add((long) hands.fault(0));
        answers.add((long) hands.fault(1));
        answers.add((long) hands.fits());
        for (int coins = 0; coins < 6; coins++) {
            answers.add(hands.law(coins, 40, 20, 2, 3));
            answers.add((long) hands.arrives(3, 0x210, coins));
        }
        for (int what = 0; what <= 5; what++) {
            answers.add((long) hands.tried(what, 0, 1));
        }
    }

    /** By a text that ends with no TOKEN, so that all else stays. */
    private static void askTape(HalfHands hands, List<Long> answers) {
        int length = hands.feed(0x20212020, 0, 0, 0, 0);
        answers.add((long) length);
        answers.add((long) hands.text(length < 0 ? 700 : length - 18));
        answers.add((long) hands.fault(0));
        answers.add((long) hands.fault(1));
    }

    private static void askNotes(HalfHands hands, List<Long> answers) {
        for (int n = 0; n <= Math.min(8, hands.count(5)); n++) {
            answers.add(hands.known(n) ? 1L : 0L);
            answers.add((long) hands.fits());
        }
    }

    private static void add(List<Long> answers, long[] more) {
        for (long answer : more) {
            answers.add(answer);
        }
    }
}
