import java.util.ArrayList;
import java.util.List;
import java.util.function.BiFunction;
import java.util.function.Supplier;

/**
 * Numbers of areas, voters, papers, signatures and places: every call that takes one, in an office with nothing, in one
 * with some and in one with all there can be. What is next to the first and the last one, and what is far away, is
 * refused with IndexOutOfBoundsException ("if there is no such ..."); what is there is not.
 */
public final class NumbersTest {
    private static final String NOT_THERE = "IndexOutOfBoundsException";

    /** A call that takes a number, with all other arguments in their ranges. */
    private static final class Call {
        final String name;
        final BiFunction<Nominator, Integer, Object> call;

        Call(String name, BiFunction<Nominator, Integer, Object> call) {
            this.name = name;
            this.call = call;
        }
    }

    private NumbersTest() {
    }

    public static void main(String[] args) {
        checkAll("area", areaCalls(), 2, 5);
        checkAll("voter", voterCalls(), 6, 40);
        checkAll("paper", paperCalls(), 4, 12);
        List<Call> signature = new ArrayList<>();
        signature.add(new Call("signatureResult", (o, k) -> o.signatureResult(k)));
        checkAll("signature", signature, 5, 150);
        List<Call> place = new ArrayList<>();
        place.add(new Call("surname", (o, k) -> o.surname(0, k)));
        check("place", place, Offices::readyToClose, 4);
        List<Call> letter = new ArrayList<>();
        letter.add(new Call("letter", (o, k) -> o.letter(k)));
        check("letter, drawn", letter, () -> Offices.drawn(Offices.closed(), 1), 26);
        check("letter, not drawn", letter, Offices::closed, 26);
        Check.end();
    }

    /** With the first papers withdrawn, and some voters struck off. */
    private static Nominator withdrawn() {
        Nominator office = Offices.full();
        for (int k = 0; k < 4; k++) {
            office.withdraw(k);
            office.strike(k);
        }
        return office;
    }

    private static void checkAll(String kind, List<Call> calls, int some, int most) {
        check(kind + " of none", calls, Nominator::new, 0);
        check(kind + " of some", calls, Offices::readyToClose, some);
        check(kind + " of some, closed", calls, Offices::closed, some);
        check(kind + " of some, polling", calls, Offices::pollingDay, some);
        check(kind + " of all", calls, Offices::full, most);
        check(kind + " of all, withdrawn", calls, NumbersTest::withdrawn, most);
        check(kind + " of all, closed", calls, () -> Offices.closed(Offices.full()), most);
        check(kind + " of all, polling", calls, () -> Offices.pollingDay(Offices.full()), most);
    }

    private static void check(String kind, List<Call> calls, Supplier<Nominator> recipe, int size) {
        int[] refused = {-1, size, size + 1, -size - 1, 31, 32, 64, 1 << 16, Integer.MAX_VALUE, Integer.MIN_VALUE};
        for (Call call : calls) {
            for (int k : refused) {
                if (k < 0 || k >= size) {
                    Check.refuses(recipe, call.name + ", " + kind + ", " + k, IndexOutOfBoundsException.class,
                            o -> call.call.apply(o, k));
                }
            }
            for (int k = 0; k < size; k++) {
                int number = k;
                Nominator office = recipe.get();
                Object got = Check.outcomeOf(() -> call.call.apply(office, number));
                Check.same(call.name + ", " + kind + ", " + k + " is there", !NOT_THERE.equals(got), true);
            }
        }
    }

    private static List<Call> areaCalls() {
        List<Call> calls = new ArrayList<>();
        calls.add(new Call("addVoter", (o, k) -> o.addVoter(k)));
        calls.add(new Call("move to", (o, k) -> o.move(0, k)));
        calls.add(new Call("file", (o, k) -> o.file(k, 3, 'a', 'b', 'c', 'd')));
        calls.add(new Call("ballotSize", (o, k) -> o.ballotSize(k)));
        calls.add(new Call("ballot", (o, k) -> o.ballot(k, 0, 0)));
        calls.add(new Call("finish", (o, k) -> o.finish(k)));
        calls.add(new Call("winner", (o, k) -> o.winner(k)));
        return calls;
    }

    private static List<Call> voterCalls() {
        List<Call> calls = new ArrayList<>();
        calls.add(new Call("move", (o, k) -> o.move(k, 0)));
        calls.add(new Call("strike", (o, k) -> o.strike(k)));
        calls.add(new Call("restore", (o, k) -> o.restore(k)));
        calls.add(new Call("areaOf", (o, k) -> o.areaOf(k)));
        calls.add(new Call("isOnRoll", (o, k) -> o.isOnRoll(k)));
        calls.add(new Call("sign by", (o, k) -> o.sign(0, k)));
        calls.add(new Call("wouldCount by", (o, k) -> o.wouldCount(0, k)));
        calls.add(new Call("paperOf", (o, k) -> o.paperOf(k)));
        return calls;
    }

    private static List<Call> paperCalls() {
        List<Call> calls = new ArrayList<>();
        calls.add(new Call("sign", (o, k) -> o.sign(k, 0)));
        calls.add(new Call("pay", (o, k) -> o.pay(k, 1)));
        calls.add(new Call("withdraw", (o, k) -> o.withdraw(k)));
        calls.add(new Call("die", (o, k) -> o.die(k)));
        calls.add(new Call("replace", (o, k) -> o.replace(k, 'a', 'b', 'c', 'd')));
        calls.add(new Call("isReplaceable", (o, k) -> o.isReplaceable(k)));
        calls.add(new Call("surname", (o, k) -> o.surname(k, 0)));
        calls.add(new Call("counted", (o, k) -> o.counted(k)));
        calls.add(new Call("wouldCount", (o, k) -> o.wouldCount(k, 0)));
        calls.add(new Call("gain of", (o, k) -> k == 0 ? o.gain(k, 1) : o.gain(k, 0)));
        calls.add(new Call("gain from", (o, k) -> k == 0 ? o.gain(1, k) : o.gain(0, k)));
        calls.add(new Call("fewestWithdrawals", (o, k) -> o.fewestWithdrawals(k)));
        calls.add(new Call("reason", (o, k) -> o.reason(k)));
        calls.add(new Call("reasonByReplay", (o, k) -> o.reasonByReplay(k)));
        calls.add(new Call("placeOnBallot", (o, k) -> o.placeOnBallot(k, 0)));
        calls.add(new Call("addVotes", (o, k) -> o.addVotes(k, 1)));
        calls.add(new Call("votes", (o, k) -> o.votes(k)));
        calls.add(new Call("share", (o, k) -> o.share(k)));
        calls.add(new Call("deposit", (o, k) -> o.deposit(k)));
        calls.add(new Call("paid", (o, k) -> o.paid(k)));
        return calls;
    }
}
